/-! the resolved layer is right (by program) -/
set_option maxRecDepth 100000 in
set_option maxHeartbeats 400000 in
theorem q_Md_readLaw_2 {c : Nat} (hc : isChap c) {k7 : Nat → Int32 → hm_M → Option hm_M} {K7 : Int32 → hn → Option hn} (hk7 : ∀ (v1 : Int32) (N : hn), k7 76 v1 (N.1, N.2, rT c) = emv c (K7 v1 N)) {v1 : Int32} {s0 : Int32} {N : hn} : b_Md_readLaw_2 S0 k7 76 v1 s0 76 (N.1, N.2, rT c) = emv c (B_Md_readLaw_2 c K7 v1 s0 N) := by
  unfold b_Md_readLaw_2 B_Md_readLaw_2
  try simp only [my_ite, my_hg]
  simp only [hl_n', hl_wI', hl_wL', hl_cp', em_s', em_n', em_my, em_l', em_b, em_v, emv_s', emv_n', emv_my, emv_l', emv_b, emv_v, hb_em, hv_em, my_T, my_F, ne_eq, not_false_eq_true, nz_c, S0_c, S0_lw, S0_h, isHold_36, hc, hc.d, hc.l, hc.d.l, nz_1, nz_2, nz_3, nz_4, nz_5, nz_6, nz_7, nz_8, S0_76, ib_82, q_Md_all hc (q_Md_takePart hc hD), q_Md_emit hc, q_Md_isWord hc, q_Md_wrong hc, rT_76_10, hk7]
set_option maxRecDepth 100000 in
set_option maxHeartbeats 400000 in
theorem r_Md_readLaw_1 {c : Nat} (hc : isChap c) {k7 : Nat → Int32 → hm_M → Option hm_M} {K7 : Int32 → hn → Option hn} (hk7 : ∀ (v1 : Int32) (N : hn), k7 76 v1 (N.1, N.2, rT c) = emv c (K7 v1 N)) {v1 : Int32} {N : hn} : b_Md_readLaw_1 S0 k7 76 v1 (N.1, N.2, rT c) = emv c (B_Md_readLaw_1 c K7 v1 N) := by
  unfold b_Md_readLaw_1 B_Md_readLaw_1
  try simp only [my_ite, my_hg]
  simp only [hl_n', hl_wI', hl_wL', hl_cp', em_s', em_n', em_my, em_l', em_b, em_v, emv_s', emv_n', emv_my, emv_l', emv_b, emv_v, hb_em, hv_em, my_T, my_F, ne_eq, not_false_eq_true, nz_c, S0_c, S0_lw, S0_h, isHold_36, hc, hc.d, hc.l, hc.d.l, nz_1, nz_2, nz_3, nz_4, nz_5, nz_6, nz_7, nz_8, S0_76, ib_82, q_Md_all hc (q_Md_takePart hc hD), q_Md_emit hc, q_Md_isWord hc, q_Md_wrong hc, rT_76_10, hk7, q_Md_readLaw_2 hc hk7]
theorem q_Md_readLaw_1 {c : Nat} (hc : isChap c) : ∀ (n : Nat) (v1 : Int32) (N : hn), f_Md_readLaw_1 S0 n 76 v1 (N.1, N.2, rT c) = emv c (F_Md_readLaw_1 c n v1 N) := by
  intro n
  induction n with
  | zero => intros; rfl
  | succ n ih => intro v1 N ; exact r_Md_readLaw_1 hc  ih
set_option maxRecDepth 100000 in
set_option maxHeartbeats 400000 in
theorem q_Md_readLaw {c : Nat} (hc : isChap c) {N : hn} : f_Md_readLaw S0 76 (N.1, N.2, rT c) = emv c (F_Md_readLaw c N) := by
  unfold f_Md_readLaw F_Md_readLaw
  try simp only [my_ite, my_hg]
  simp only [hl_n', hl_wI', hl_wL', hl_cp', em_s', em_n', em_my, em_l', em_b, em_v, emv_s', emv_n', emv_my, emv_l', emv_b, emv_v, hb_em, hv_em, my_T, my_F, ne_eq, not_false_eq_true, nz_c, S0_c, S0_lw, S0_h, isHold_36, hc, hc.d, hc.l, hc.d.l, nz_1, nz_2, nz_3, nz_4, nz_5, nz_6, nz_7, nz_8, S0_76, ib_82, q_Md_all hc (q_Md_takePart hc hD), q_Md_emit hc, q_Md_isWord hc, q_Md_wrong hc, rT_76_10, q_Md_readLaw_1 hc]
set_option maxRecDepth 100000 in
set_option maxHeartbeats 400000 in
theorem q_Md_readLine {c : Nat} (hc : isChap c) {N : hn} : f_Md_readLine S0 76 (N.1, N.2, rT c) = emv c (F_Md_readLine c N) := by
  unfold f_Md_readLine F_Md_readLine
  try simp only [my_ite, my_hg]
  simp only [hl_n', hl_wI', hl_wL', hl_cp', em_s', em_n', em_my, em_l', em_b, em_v, emv_s', emv_n', emv_my, emv_l', emv_b, emv_v, hb_em, hv_em, my_T, my_F, ne_eq, not_false_eq_true, nz_c, S0_c, S0_lw, S0_h, isHold_36, hc, hc.d, hc.l, hc.d.l, nz_1, nz_2, nz_3, nz_4, nz_5, nz_6, nz_7, nz_8, S0_76, q_Md_isWord hc, q_Md_readCloud hc, q_Md_readFloor hc, q_Md_readGuild hc, q_Md_readLaw hc, q_Md_readPane hc]
set_option maxRecDepth 100000 in
set_option maxHeartbeats 400000 in
theorem r_Md_chapel_8 {c : Nat} (hc : isChap c) {k246 : Nat → Int32 → hm_M → Option (Int32 × hm_M)} {K246 : Int32 → hn → Option (Int32 × hn)} (hk246 : ∀ (v1 : Int32) (N : hn), k246 76 v1 (N.1, N.2, rT c) = em c (K246 v1 N)) {v1 : Int32} {N : hn} : b_Md_chapel_8 S0 k246 76 v1 (N.1, N.2, rT c) = em c (B_Md_chapel_8 c K246 v1 N) := by
  unfold b_Md_chapel_8 B_Md_chapel_8
  try simp only [my_ite, my_hg]
  simp only [hl_n', hl_wI', hl_wL', hl_cp', em_s', em_n', em_my, em_l', em_b, em_v, emv_s', emv_n', emv_my, emv_l', emv_b, emv_v, hb_em, hv_em, my_T, my_F, ne_eq, not_false_eq_true, nz_c, S0_c, S0_lw, S0_h, isHold_36, hc, hc.d, hc.l, hc.d.l, nz_1, nz_2, nz_3, nz_4, nz_5, nz_6, nz_7, nz_8, S0_76, ib_78, ib_82, ib_83, ib_84, ib_88, ib_89, q_Md_cutAll hc, q_Md_readLine hc, q_Md_takeSign hc, rT_76_10, rT_76_11, rT_76_12, rT_76_20, rT_76_22, rT_76_4, hk246]
theorem q_Md_chapel_8 {c : Nat} (hc : isChap c) : ∀ (n : Nat) (v1 : Int32) (N : hn), f_Md_chapel_8 S0 n 76 v1 (N.1, N.2, rT c) = em c (F_Md_chapel_8 c n v1 N) := by
  intro n
  induction n with
  | zero => intros; rfl
  | succ n ih => intro v1 N ; exact r_Md_chapel_8 hc  ih
set_option maxRecDepth 100000 in
set_option maxHeartbeats 400000 in
theorem r_Md_chapel_7 {c : Nat} (hc : isChap c) {k190 : Nat → Int32 → hm_M → Option (Int32 × hm_M)} {K190 : Int32 → hn → Option (Int32 × hn)} (hk190 : ∀ (v1 : Int32) (N : hn), k190 76 v1 (N.1, N.2, rT c) = em c (K190 v1 N)) {v1 : Int32} {N : hn} : b_Md_chapel_7 S0 k190 76 v1 (N.1, N.2, rT c) = em c (B_Md_chapel_7 c K190 v1 N) := by
  unfold b_Md_chapel_7 B_Md_chapel_7
  try simp only [my_ite, my_hg]
  simp only [hl_n', hl_wI', hl_wL', hl_cp', em_s', em_n', em_my, em_l', em_b, em_v, emv_s', emv_n', emv_my, emv_l', emv_b, emv_v, hb_em, hv_em, my_T, my_F, ne_eq, not_false_eq_true, nz_c, S0_c, S0_lw, S0_h, isHold_36, hc, hc.d, hc.l, hc.d.l, nz_1, nz_2, nz_3, nz_4, nz_5, nz_6, nz_7, nz_8, S0_76, ib_78, ib_82, ib_83, ib_84, ib_88, ib_89, q_Md_cutAll hc, q_Md_readLine hc, q_Md_takeSign hc, rT_76_10, rT_76_11, rT_76_12, rT_76_20, rT_76_22, rT_76_4, hk190, q_Md_chapel_8 hc]
theorem q_Md_chapel_7 {c : Nat} (hc : isChap c) : ∀ (n : Nat) (v1 : Int32) (N : hn), f_Md_chapel_7 S0 n 76 v1 (N.1, N.2, rT c) = em c (F_Md_chapel_7 c n v1 N) := by
  intro n
  induction n with
  | zero => intros; rfl
  | succ n ih => intro v1 N ; exact r_Md_chapel_7 hc  ih
set_option maxRecDepth 100000 in
set_option maxHeartbeats 400000 in
theorem r_Md_chapel_6 {c : Nat} (hc : isChap c) {k142 : Nat → Int32 → hm_M → Option (Int32 × hm_M)} {K142 : Int32 → hn → Option (Int32 × hn)} (hk142 : ∀ (v1 : Int32) (N : hn), k142 76 v1 (N.1, N.2, rT c) = em c (K142 v1 N)) {v1 : Int32} {N : hn} : b_Md_chapel_6 S0 k142 76 v1 (N.1, N.2, rT c) = em c (B_Md_chapel_6 c K142 v1 N) := by
  unfold b_Md_chapel_6 B_Md_chapel_6
  try simp only [my_ite, my_hg]
  simp only [hl_n', hl_wI', hl_wL', hl_cp', em_s', em_n', em_my, em_l', em_b, em_v, emv_s', emv_n', emv_my, emv_l', emv_b, emv_v, hb_em, hv_em, my_T, my_F, ne_eq, not_false_eq_true, nz_c, S0_c, S0_lw, S0_h, isHold_36, hc, hc.d, hc.l, hc.d.l, nz_1, nz_2, nz_3, nz_4, nz_5, nz_6, nz_7, nz_8, S0_76, ib_78, ib_82, ib_83, ib_84, ib_88, ib_89, q_Md_cutAll hc, q_Md_readLine hc, q_Md_takeSign hc, rT_76_10, rT_76_11, rT_76_12, rT_76_20, rT_76_22, rT_76_4, hk142, q_Md_chapel_8 hc, q_Md_chapel_7 hc]
theorem q_Md_chapel_6 {c : Nat} (hc : isChap c) : ∀ (n : Nat) (v1 : Int32) (N : hn), f_Md_chapel_6 S0 n 76 v1 (N.1, N.2, rT c) = em c (F_Md_chapel_6 c n v1 N) := by
  intro n
  induction n with
  | zero => intros; rfl
  | succ n ih => intro v1 N ; exact r_Md_chapel_6 hc  ih
set_option maxRecDepth 100000 in
set_option maxHeartbeats 400000 in
theorem r_Md_chapel_5 {c : Nat} (hc : isChap c) {k113 : Nat → Int32 → hm_M → Option (Int32 × hm_M)} {K113 : Int32 → hn → Option (Int32 × hn)} (hk113 : ∀ (v1 : Int32) (N : hn), k113 76 v1 (N.1, N.2, rT c) = em c (K113 v1 N)) {v1 : Int32} {N : hn} : b_Md_chapel_5 S0 k113 76 v1 (N.1, N.2, rT c) = em c (B_Md_chapel_5 c K113 v1 N) := by
  unfold b_Md_chapel_5 B_Md_chapel_5
  try simp only [my_ite, my_hg]
  simp only [hl_n', hl_wI', hl_wL', hl_cp', em_s', em_n', em_my, em_l', em_b, em_v, emv_s', emv_n', emv_my, emv_l', emv_b, emv_v, hb_em, hv_em, my_T, my_F, ne_eq, not_false_eq_true, nz_c, S0_c, S0_lw, S0_h, isHold_36, hc, hc.d, hc.l, hc.d.l, nz_1, nz_2, nz_3, nz_4, nz_5, nz_6, nz_7, nz_8, S0_76, ib_78, ib_82, ib_83, ib_84, ib_88, ib_89, q_Md_cutAll hc, q_Md_readLine hc, q_Md_takeSign hc, rT_76_10, rT_76_11, rT_76_12, rT_76_20, rT_76_22, rT_76_4, hk113, q_Md_chapel_8 hc, q_Md_chapel_7 hc, q_Md_chapel_6 hc]
theorem q_Md_chapel_5 {c : Nat} (hc : isChap c) : ∀ (n : Nat) (v1 : Int32) (N : hn), f_Md_chapel_5 S0 n 76 v1 (N.1, N.2, rT c) = em c (F_Md_chapel_5 c n v1 N) := by
  intro n
  induction n with
  | zero => intros; rfl
  | succ n ih => intro v1 N ; exact r_Md_chapel_5 hc  ih
set_option maxRecDepth 100000 in
set_option maxHeartbeats 400000 in
theorem q_Md_chapel_4 {c : Nat} (hc : isChap c) {N : hn} : b_Md_chapel_4 S0 76 (N.1, N.2, rT c) = em c (B_Md_chapel_4 c N) := by
  unfold b_Md_chapel_4 B_Md_chapel_4
  try simp only [my_ite, my_hg]
  simp only [hl_n', hl_wI', hl_wL', hl_cp', em_s', em_n', em_my, em_l', em_b, em_v, emv_s', emv_n', emv_my, emv_l', emv_b, emv_v, hb_em, hv_em, my_T, my_F, ne_eq, not_false_eq_true, nz_c, S0_c, S0_lw, S0_h, isHold_36, hc, hc.d, hc.l, hc.d.l, nz_1, nz_2, nz_3, nz_4, nz_5, nz_6, nz_7, nz_8, S0_76, ib_78, ib_82, ib_83, ib_84, ib_88, ib_89, q_Md_cutAll hc, q_Md_readLine hc, q_Md_takeSign hc, rT_76_10, rT_76_11, rT_76_12, rT_76_20, rT_76_22, rT_76_4, q_Md_chapel_8 hc, q_Md_chapel_7 hc, q_Md_chapel_6 hc, q_Md_chapel_5 hc]
set_option maxRecDepth 100000 in
set_option maxHeartbeats 400000 in
theorem r_Md_chapel_3 {c : Nat} (hc : isChap c) {k67 : Nat → hm_M → Option (Int32 × hm_M)} {K67 : hn → Option (Int32 × hn)} (hk67 : ∀ (N : hn), k67 76 (N.1, N.2, rT c) = em c (K67 N)) {N : hn} : b_Md_chapel_3 S0 k67 76 (N.1, N.2, rT c) = em c (B_Md_chapel_3 c K67 N) := by
  unfold b_Md_chapel_3 B_Md_chapel_3
  try simp only [my_ite, my_hg]
  simp only [hl_n', hl_wI', hl_wL', hl_cp', em_s', em_n', em_my, em_l', em_b, em_v, emv_s', emv_n', emv_my, emv_l', emv_b, emv_v, hb_em, hv_em, my_T, my_F, ne_eq, not_false_eq_true, nz_c, S0_c, S0_lw, S0_h, isHold_36, hc, hc.d, hc.l, hc.d.l, nz_1, nz_2, nz_3, nz_4, nz_5, nz_6, nz_7, nz_8, S0_76, ib_78, ib_82, ib_83, ib_84, ib_88, ib_89, q_Md_cutAll hc, q_Md_readLine hc, q_Md_takeSign hc, rT_76_10, rT_76_11, rT_76_12, rT_76_20, rT_76_22, rT_76_4, hk67, q_Md_chapel_8 hc, q_Md_chapel_7 hc, q_Md_chapel_6 hc, q_Md_chapel_5 hc, q_Md_chapel_4 hc]
theorem q_Md_chapel_3 {c : Nat} (hc : isChap c) : ∀ (n : Nat) (N : hn), f_Md_chapel_3 S0 n 76 (N.1, N.2, rT c) = em c (F_Md_chapel_3 c n N) := by
  intro n
  induction n with
  | zero => intros; rfl
  | succ n ih => intro  N ; exact r_Md_chapel_3 hc  ih
set_option maxRecDepth 100000 in
set_option maxHeartbeats 400000 in
theorem q_Md_chapel_2 {c : Nat} (hc : isChap c) {k26 : Nat → Int32 → hm_M → Option (Int32 × hm_M)} {K26 : Int32 → hn → Option (Int32 × hn)} (hk26 : ∀ (v1 : Int32) (N : hn), k26 76 v1 (N.1, N.2, rT c) = em c (K26 v1 N)) {v1 : Int32} {s0 : Int32} {s1 : Int32} {N : hn} : b_Md_chapel_2 S0 k26 76 v1 s0 s1 82 (N.1, N.2, rT c) = em c (B_Md_chapel_2 c K26 v1 s0 s1 N) := by
  unfold b_Md_chapel_2 B_Md_chapel_2
  try simp only [my_ite, my_hg]
  simp only [hl_n', hl_wI', hl_wL', hl_cp', em_s', em_n', em_my, em_l', em_b, em_v, emv_s', emv_n', emv_my, emv_l', emv_b, emv_v, hb_em, hv_em, my_T, my_F, ne_eq, not_false_eq_true, nz_c, S0_c, S0_lw, S0_h, isHold_36, hc, hc.d, hc.l, hc.d.l, nz_1, nz_2, nz_3, nz_4, nz_5, nz_6, nz_7, nz_8, S0_76, ib_78, ib_82, ib_83, ib_84, ib_88, ib_89, q_Md_cutAll hc, q_Md_readLine hc, q_Md_takeSign hc, rT_76_10, rT_76_11, rT_76_12, rT_76_20, rT_76_22, rT_76_4, hk26, q_Md_chapel_8 hc, q_Md_chapel_7 hc, q_Md_chapel_6 hc, q_Md_chapel_5 hc, q_Md_chapel_4 hc, q_Md_chapel_3 hc]
set_option maxRecDepth 100000 in
set_option maxHeartbeats 400000 in
theorem r_Md_chapel_1 {c : Nat} (hc : isChap c) {k26 : Nat → Int32 → hm_M → Option (Int32 × hm_M)} {K26 : Int32 → hn → Option (Int32 × hn)} (hk26 : ∀ (v1 : Int32) (N : hn), k26 76 v1 (N.1, N.2, rT c) = em c (K26 v1 N)) {v1 : Int32} {N : hn} : b_Md_chapel_1 S0 k26 76 v1 (N.1, N.2, rT c) = em c (B_Md_chapel_1 c K26 v1 N) := by
  unfold b_Md_chapel_1 B_Md_chapel_1
  try simp only [my_ite, my_hg]
  simp only [hl_n', hl_wI', hl_wL', hl_cp', em_s', em_n', em_my, em_l', em_b, em_v, emv_s', emv_n', emv_my, emv_l', emv_b, emv_v, hb_em, hv_em, my_T, my_F, ne_eq, not_false_eq_true, nz_c, S0_c, S0_lw, S0_h, isHold_36, hc, hc.d, hc.l, hc.d.l, nz_1, nz_2, nz_3, nz_4, nz_5, nz_6, nz_7, nz_8, S0_76, ib_78, ib_82, ib_83, ib_84, ib_88, ib_89, q_Md_cutAll hc, q_Md_readLine hc, q_Md_takeSign hc, rT_76_10, rT_76_11, rT_76_12, rT_76_20, rT_76_22, rT_76_4, hk26, q_Md_chapel_8 hc, q_Md_chapel_7 hc, q_Md_chapel_6 hc, q_Md_chapel_5 hc, q_Md_chapel_4 hc, q_Md_chapel_3 hc, q_Md_chapel_2 hc hk26]
theorem q_Md_chapel_1 {c : Nat} (hc : isChap c) : ∀ (n : Nat) (v1 : Int32) (N : hn), f_Md_chapel_1 S0 n 76 v1 (N.1, N.2, rT c) = em c (F_Md_chapel_1 c n v1 N) := by
  intro n
  induction n with
  | zero => intros; rfl
  | succ n ih => intro v1 N ; exact r_Md_chapel_1 hc  ih
set_option maxRecDepth 100000 in
set_option maxHeartbeats 400000 in
theorem q_Md_chapel {c : Nat} (hc : isChap c) {N : hn} : f_Md_chapel S0 76 (N.1, N.2, rT c) = em c (F_Md_chapel c N) := by
  unfold f_Md_chapel F_Md_chapel
  try simp only [my_ite, my_hg]
  simp only [hl_n', hl_wI', hl_wL', hl_cp', em_s', em_n', em_my, em_l', em_b, em_v, emv_s', emv_n', emv_my, emv_l', emv_b, emv_v, hb_em, hv_em, my_T, my_F, ne_eq, not_false_eq_true, nz_c, S0_c, S0_lw, S0_h, isHold_36, hc, hc.d, hc.l, hc.d.l, nz_1, nz_2, nz_3, nz_4, nz_5, nz_6, nz_7, nz_8, S0_76, ib_78, ib_82, ib_83, ib_84, ib_88, ib_89, q_Md_cutAll hc, q_Md_readLine hc, q_Md_takeSign hc, rT_76_10, rT_76_11, rT_76_12, rT_76_20, rT_76_22, rT_76_4, q_Md_chapel_1 hc, q_Md_chapel_3 hc, q_Md_chapel_4 hc, q_Md_chapel_5 hc, q_Md_chapel_6 hc, q_Md_chapel_7 hc, q_Md_chapel_8 hc]
set_option maxRecDepth 100000 in
set_option maxHeartbeats 400000 in
theorem q_Md_clear {c : Nat} (hc : isChap c) {N : hn} : f_Md_clear S0 76 (N.1, N.2, rT c) = em c (F_Md_clear c N) := by
  unfold f_Md_clear F_Md_clear
  try simp only [my_ite, my_hg]
  simp only [hl_n', hl_wI', hl_wL', hl_cp', em_s', em_n', em_my, em_l', em_b, em_v, emv_s', emv_n', emv_my, emv_l', emv_b, emv_v, hb_em, hv_em, my_T, my_F, ne_eq, not_false_eq_true, nz_c, S0_c, S0_lw, S0_h, isHold_36, hc, hc.d, hc.l, hc.d.l, nz_1, nz_2, nz_3, nz_4, nz_5, nz_6, nz_7, nz_8, S0_76, ib_88, rT_76_20]
set_option maxRecDepth 100000 in
set_option maxHeartbeats 400000 in
theorem q_Md_guilds {c : Nat} (hc : isChap c) {N : hn} : f_Md_guilds S0 76 (N.1, N.2, rT c) = em c (F_Md_guilds c N) := by
  unfold f_Md_guilds F_Md_guilds
  try simp only [my_ite, my_hg]
  simp only [hl_n', hl_wI', hl_wL', hl_cp', em_s', em_n', em_my, em_l', em_b, em_v, emv_s', emv_n', emv_my, emv_l', emv_b, emv_v, hb_em, hv_em, my_T, my_F, ne_eq, not_false_eq_true, nz_c, S0_c, S0_lw, S0_h, isHold_36, hc, hc.d, hc.l, hc.d.l, nz_1, nz_2, nz_3, nz_4, nz_5, nz_6, nz_7, nz_8, S0_76, ib_82, rT_76_10]
set_option maxRecDepth 100000 in
set_option maxHeartbeats 400000 in
theorem q_Md_isGuild {c : Nat} (hc : isChap c) {v1 : Int32} {N : hn} : f_Md_isGuild S0 76 v1 (N.1, N.2, rT c) = em c (F_Md_isGuild c v1 N) := by
  unfold f_Md_isGuild F_Md_isGuild
  try simp only [my_ite, my_hg]
  simp only [hl_n', hl_wI', hl_wL', hl_cp', em_s', em_n', em_my, em_l', em_b, em_v, emv_s', emv_n', emv_my, emv_l', emv_b, emv_v, hb_em, hv_em, my_T, my_F, ne_eq, not_false_eq_true, nz_c, S0_c, S0_lw, S0_h, isHold_36, hc, hc.d, hc.l, hc.d.l, nz_1, nz_2, nz_3, nz_4, nz_5, nz_6, nz_7, nz_8, S0_76, q_Md_guilds hc]
set_option maxRecDepth 100000 in
set_option maxHeartbeats 400000 in
theorem q_Md_draw {c : Nat} (hc : isChap c) {v1 : Int32} {N : hn} : f_Md_draw S0 76 v1 (N.1, N.2, rT c) = em c (F_Md_draw c v1 N) := by
  unfold f_Md_draw F_Md_draw
  try simp only [my_ite, my_hg]
  simp only [hl_n', hl_wI', hl_wL', hl_cp', em_s', em_n', em_my, em_l', em_b, em_v, emv_s', emv_n', emv_my, emv_l', emv_b, emv_v, hb_em, hv_em, my_T, my_F, ne_eq, not_false_eq_true, nz_c, S0_c, S0_lw, S0_h, isHold_36, hc, hc.d, hc.l, hc.d.l, nz_1, nz_2, nz_3, nz_4, nz_5, nz_6, nz_7, nz_8, S0_76]
set_option maxRecDepth 100000 in
set_option maxHeartbeats 400000 in
theorem q_Md_rentsOf_2 {c : Nat} (hc : isChap c) {k4 : Nat → Int32 → Int32 → Int32 → hm_M → Option (Int32 × hm_M)} {K4 : Int32 → Int32 → Int32 → hn → Option (Int32 × hn)} (hk4 : ∀ (v1 : Int32) (v2 : Int32) (v3 : Int32) (N : hn), k4 76 v1 v2 v3 (N.1, N.2, rT c) = em c (K4 v1 v2 v3 N)) {v1 : Int32} {v3 : Int32} {s0 : Int32} {s1 : Int32} {N : hn} : b_Md_rentsOf_2 S0 k4 76 v1 v3 s0 s1 (N.1, N.2, rT c) = em c (B_Md_rentsOf_2 c K4 v1 v3 s0 s1 N) := by
  unfold b_Md_rentsOf_2 B_Md_rentsOf_2
  try simp only [my_ite, my_hg]
  simp only [hl_n', hl_wI', hl_wL', hl_cp', em_s', em_n', em_my, em_l', em_b, em_v, emv_s', emv_n', emv_my, emv_l', emv_b, emv_v, hb_em, hv_em, my_T, my_F, ne_eq, not_false_eq_true, nz_c, S0_c, S0_lw, S0_h, isHold_36, hc, hc.d, hc.l, hc.d.l, nz_1, nz_2, nz_3, nz_4, nz_5, nz_6, nz_7, nz_8, S0_76, ib_91, q_Md_ownerOf hc, q_Md_panes hc, rT_76_25, hk4]
set_option maxRecDepth 100000 in
set_option maxHeartbeats 400000 in
theorem r_Md_rentsOf_1 {c : Nat} (hc : isChap c) {k4 : Nat → Int32 → Int32 → Int32 → hm_M → Option (Int32 × hm_M)} {K4 : Int32 → Int32 → Int32 → hn → Option (Int32 × hn)} (hk4 : ∀ (v1 : Int32) (v2 : Int32) (v3 : Int32) (N : hn), k4 76 v1 v2 v3 (N.1, N.2, rT c) = em c (K4 v1 v2 v3 N)) {v1 : Int32} {v2 : Int32} {v3 : Int32} {N : hn} : b_Md_rentsOf_1 S0 k4 76 v1 v2 v3 (N.1, N.2, rT c) = em c (B_Md_rentsOf_1 c K4 v1 v2 v3 N) := by
  unfold b_Md_rentsOf_1 B_Md_rentsOf_1
  try simp only [my_ite, my_hg]
  simp only [hl_n', hl_wI', hl_wL', hl_cp', em_s', em_n', em_my, em_l', em_b, em_v, emv_s', emv_n', emv_my, emv_l', emv_b, emv_v, hb_em, hv_em, my_T, my_F, ne_eq, not_false_eq_true, nz_c, S0_c, S0_lw, S0_h, isHold_36, hc, hc.d, hc.l, hc.d.l, nz_1, nz_2, nz_3, nz_4, nz_5, nz_6, nz_7, nz_8, S0_76, ib_91, q_Md_ownerOf hc, q_Md_panes hc, rT_76_25, hk4, q_Md_rentsOf_2 hc hk4]
theorem q_Md_rentsOf_1 {c : Nat} (hc : isChap c) : ∀ (n : Nat) (v1 : Int32) (v2 : Int32) (v3 : Int32) (N : hn), f_Md_rentsOf_1 S0 n 76 v1 v2 v3 (N.1, N.2, rT c) = em c (F_Md_rentsOf_1 c n v1 v2 v3 N) := by
  intro n
  induction n with
  | zero => intros; rfl
  | succ n ih => intro v1 v2 v3 N ; exact r_Md_rentsOf_1 hc  ih
set_option maxRecDepth 100000 in
set_option maxHeartbeats 400000 in
theorem q_Md_rentsOf {c : Nat} (hc : isChap c) {v1 : Int32} {N : hn} : f_Md_rentsOf S0 76 v1 (N.1, N.2, rT c) = em c (F_Md_rentsOf c v1 N) := by
  unfold f_Md_rentsOf F_Md_rentsOf
  try simp only [my_ite, my_hg]
  simp only [hl_n', hl_wI', hl_wL', hl_cp', em_s', em_n', em_my, em_l', em_b, em_v, emv_s', emv_n', emv_my, emv_l', emv_b, emv_v, hb_em, hv_em, my_T, my_F, ne_eq, not_false_eq_true, nz_c, S0_c, S0_lw, S0_h, isHold_36, hc, hc.d, hc.l, hc.d.l, nz_1, nz_2, nz_3, nz_4, nz_5, nz_6, nz_7, nz_8, S0_76, ib_91, q_Md_ownerOf hc, q_Md_panes hc, rT_76_25, q_Md_rentsOf_1 hc]
set_option maxRecDepth 100000 in
set_option maxHeartbeats 400000 in
theorem q_Md_clouded_6 {c : Nat} (hc : isChap c) {k116 : Nat → Int32 → Int32 → Int32 → hm_M → Option (Int32 × hm_M)} {K116 : Int32 → Int32 → Int32 → hn → Option (Int32 × hn)} (hk116 : ∀ (v2 : Int32) (v3 : Int32) (v4 : Int32) (N : hn), k116 76 v2 v3 v4 (N.1, N.2, rT c) = em c (K116 v2 v3 v4 N)) {v2 : Int32} {v4 : Int32} {s0 : Int32} {s1 : Int32} {N : hn} : b_Md_clouded_6 S0 k116 76 v2 v4 s0 s1 (N.1, N.2, rT c) = em c (B_Md_clouded_6 c K116 v2 v4 s0 s1 N) := by
  unfold b_Md_clouded_6 B_Md_clouded_6
  try simp only [my_ite, my_hg]
  simp only [hl_n', hl_wI', hl_wL', hl_cp', em_s', em_n', em_my, em_l', em_b, em_v, emv_s', emv_n', emv_my, emv_l', emv_b, emv_v, hb_em, hv_em, my_T, my_F, ne_eq, not_false_eq_true, nz_c, S0_c, S0_lw, S0_h, isHold_36, hc, hc.d, hc.l, hc.d.l, nz_1, nz_2, nz_3, nz_4, nz_5, nz_6, nz_7, nz_8, S0_76, ib_82, ib_91, q_Md_addsYields hc, q_Md_draw hc, q_Md_guilds hc, q_Md_isGuild hc, q_Md_rentsOf hc, q_Md_within hc, rT_76_10, rT_76_25, hk116]
set_option maxRecDepth 100000 in
set_option maxHeartbeats 400000 in
theorem r_Md_clouded_5 {c : Nat} (hc : isChap c) {k116 : Nat → Int32 → Int32 → Int32 → hm_M → Option (Int32 × hm_M)} {K116 : Int32 → Int32 → Int32 → hn → Option (Int32 × hn)} (hk116 : ∀ (v2 : Int32) (v3 : Int32) (v4 : Int32) (N : hn), k116 76 v2 v3 v4 (N.1, N.2, rT c) = em c (K116 v2 v3 v4 N)) {v2 : Int32} {v3 : Int32} {v4 : Int32} {N : hn} : b_Md_clouded_5 S0 k116 76 v2 v3 v4 (N.1, N.2, rT c) = em c (B_Md_clouded_5 c K116 v2 v3 v4 N) := by
  unfold b_Md_clouded_5 B_Md_clouded_5
  try simp only [my_ite, my_hg]
  simp only [hl_n', hl_wI', hl_wL', hl_cp', em_s', em_n', em_my, em_l', em_b, em_v, emv_s', emv_n', emv_my, emv_l', emv_b, emv_v, hb_em, hv_em, my_T, my_F, ne_eq, not_false_eq_true, nz_c, S0_c, S0_lw, S0_h, isHold_36, hc, hc.d, hc.l, hc.d.l, nz_1, nz_2, nz_3, nz_4, nz_5, nz_6, nz_7, nz_8, S0_76, ib_82, ib_91, q_Md_addsYields hc, q_Md_draw hc, q_Md_guilds hc, q_Md_isGuild hc, q_Md_rentsOf hc, q_Md_within hc, rT_76_10, rT_76_25, hk116, q_Md_clouded_6 hc hk116]
theorem q_Md_clouded_5 {c : Nat} (hc : isChap c) : ∀ (n : Nat) (v2 : Int32) (v3 : Int32) (v4 : Int32) (N : hn), f_Md_clouded_5 S0 n 76 v2 v3 v4 (N.1, N.2, rT c) = em c (F_Md_clouded_5 c n v2 v3 v4 N) := by
  intro n
  induction n with
  | zero => intros; rfl
  | succ n ih => intro v2 v3 v4 N ; exact r_Md_clouded_5 hc  ih
set_option maxRecDepth 100000 in
set_option maxHeartbeats 400000 in
theorem r_Md_clouded_4 {c : Nat} (hc : isChap c) {k71 : Nat → Int32 → Int32 → hm_M → Option (Int32 × hm_M)} {K71 : Int32 → Int32 → hn → Option (Int32 × hn)} (hk71 : ∀ (v2 : Int32) (v3 : Int32) (N : hn), k71 76 v2 v3 (N.1, N.2, rT c) = em c (K71 v2 v3 N)) {v2 : Int32} {v3 : Int32} {N : hn} : b_Md_clouded_4 S0 k71 76 v2 v3 (N.1, N.2, rT c) = em c (B_Md_clouded_4 c K71 v2 v3 N) := by
  unfold b_Md_clouded_4 B_Md_clouded_4
  try simp only [my_ite, my_hg]
  simp only [hl_n', hl_wI', hl_wL', hl_cp', em_s', em_n', em_my, em_l', em_b, em_v, emv_s', emv_n', emv_my, emv_l', emv_b, emv_v, hb_em, hv_em, my_T, my_F, ne_eq, not_false_eq_true, nz_c, S0_c, S0_lw, S0_h, isHold_36, hc, hc.d, hc.l, hc.d.l, nz_1, nz_2, nz_3, nz_4, nz_5, nz_6, nz_7, nz_8, S0_76, ib_82, ib_91, q_Md_addsYields hc, q_Md_draw hc, q_Md_guilds hc, q_Md_isGuild hc, q_Md_rentsOf hc, q_Md_within hc, rT_76_10, rT_76_25, hk71, q_Md_clouded_5 hc]
theorem q_Md_clouded_4 {c : Nat} (hc : isChap c) : ∀ (n : Nat) (v2 : Int32) (v3 : Int32) (N : hn), f_Md_clouded_4 S0 n 76 v2 v3 (N.1, N.2, rT c) = em c (F_Md_clouded_4 c n v2 v3 N) := by
  intro n
  induction n with
  | zero => intros; rfl
  | succ n ih => intro v2 v3 N ; exact r_Md_clouded_4 hc  ih
set_option maxRecDepth 100000 in
set_option maxHeartbeats 400000 in
theorem r_Md_clouded_3 {c : Nat} (hc : isChap c) {k50 : Nat → Int32 → Int32 → hm_M → Option (Int32 × hm_M)} {K50 : Int32 → Int32 → hn → Option (Int32 × hn)} (hk50 : ∀ (v2 : Int32) (v3 : Int32) (N : hn), k50 76 v2 v3 (N.1, N.2, rT c) = em c (K50 v2 v3 N)) {v2 : Int32} {v3 : Int32} {N : hn} : b_Md_clouded_3 S0 k50 76 v2 v3 (N.1, N.2, rT c) = em c (B_Md_clouded_3 c K50 v2 v3 N) := by
  unfold b_Md_clouded_3 B_Md_clouded_3
  try simp only [my_ite, my_hg]
  simp only [hl_n', hl_wI', hl_wL', hl_cp', em_s', em_n', em_my, em_l', em_b, em_v, emv_s', emv_n', emv_my, emv_l', emv_b, emv_v, hb_em, hv_em, my_T, my_F, ne_eq, not_false_eq_true, nz_c, S0_c, S0_lw, S0_h, isHold_36, hc, hc.d, hc.l, hc.d.l, nz_1, nz_2, nz_3, nz_4, nz_5, nz_6, nz_7, nz_8, S0_76, ib_82, ib_91, q_Md_addsYields hc, q_Md_draw hc, q_Md_guilds hc, q_Md_isGuild hc, q_Md_rentsOf hc, q_Md_within hc, rT_76_10, rT_76_25, hk50, q_Md_clouded_5 hc, q_Md_clouded_4 hc]
theorem q_Md_clouded_3 {c : Nat} (hc : isChap c) : ∀ (n : Nat) (v2 : Int32) (v3 : Int32) (N : hn), f_Md_clouded_3 S0 n 76 v2 v3 (N.1, N.2, rT c) = em c (F_Md_clouded_3 c n v2 v3 N) := by
  intro n
  induction n with
  | zero => intros; rfl
  | succ n ih => intro v2 v3 N ; exact r_Md_clouded_3 hc  ih
set_option maxRecDepth 100000 in
set_option maxHeartbeats 400000 in
theorem q_Md_clouded_2 {c : Nat} (hc : isChap c) {v1 : Int32} {v2 : Int32} {s0 : Int32} {N : hn} : b_Md_clouded_2 S0 76 v1 v2 s0 76 (N.1, N.2, rT c) = em c (B_Md_clouded_2 c v1 v2 s0 N) := by
  unfold b_Md_clouded_2 B_Md_clouded_2
  try simp only [my_ite, my_hg]
  simp only [hl_n', hl_wI', hl_wL', hl_cp', em_s', em_n', em_my, em_l', em_b, em_v, emv_s', emv_n', emv_my, emv_l', emv_b, emv_v, hb_em, hv_em, my_T, my_F, ne_eq, not_false_eq_true, nz_c, S0_c, S0_lw, S0_h, isHold_36, hc, hc.d, hc.l, hc.d.l, nz_1, nz_2, nz_3, nz_4, nz_5, nz_6, nz_7, nz_8, S0_76, ib_82, ib_91, q_Md_addsYields hc, q_Md_draw hc, q_Md_guilds hc, q_Md_isGuild hc, q_Md_rentsOf hc, q_Md_within hc, rT_76_10, rT_76_25, q_Md_clouded_5 hc, q_Md_clouded_4 hc, q_Md_clouded_3 hc]
set_option maxRecDepth 100000 in
set_option maxHeartbeats 400000 in
theorem q_Md_clouded_1 {c : Nat} (hc : isChap c) {v1 : Int32} {v2 : Int32} {N : hn} : b_Md_clouded_1 S0 76 v1 v2 76 (N.1, N.2, rT c) = em c (B_Md_clouded_1 c v1 v2 N) := by
  unfold b_Md_clouded_1 B_Md_clouded_1
  try simp only [my_ite, my_hg]
  simp only [hl_n', hl_wI', hl_wL', hl_cp', em_s', em_n', em_my, em_l', em_b, em_v, emv_s', emv_n', emv_my, emv_l', emv_b, emv_v, hb_em, hv_em, my_T, my_F, ne_eq, not_false_eq_true, nz_c, S0_c, S0_lw, S0_h, isHold_36, hc, hc.d, hc.l, hc.d.l, nz_1, nz_2, nz_3, nz_4, nz_5, nz_6, nz_7, nz_8, S0_76, ib_82, ib_91, q_Md_addsYields hc, q_Md_draw hc, q_Md_guilds hc, q_Md_isGuild hc, q_Md_rentsOf hc, q_Md_within hc, rT_76_10, rT_76_25, q_Md_clouded_5 hc, q_Md_clouded_4 hc, q_Md_clouded_3 hc, q_Md_clouded_2 hc]
set_option maxRecDepth 100000 in
set_option maxHeartbeats 400000 in
theorem q_Md_clouded {c : Nat} (hc : isChap c) {v1 : Int32} {v2 : Int32} {N : hn} : f_Md_clouded S0 76 v1 v2 (N.1, N.2, rT c) = em c (F_Md_clouded c v1 v2 N) := by
  unfold f_Md_clouded F_Md_clouded
  try simp only [my_ite, my_hg]
  simp only [hl_n', hl_wI', hl_wL', hl_cp', em_s', em_n', em_my, em_l', em_b, em_v, emv_s', emv_n', emv_my, emv_l', emv_b, emv_v, hb_em, hv_em, my_T, my_F, ne_eq, not_false_eq_true, nz_c, S0_c, S0_lw, S0_h, isHold_36, hc, hc.d, hc.l, hc.d.l, nz_1, nz_2, nz_3, nz_4, nz_5, nz_6, nz_7, nz_8, S0_76, ib_82, ib_91, q_Md_addsYields hc, q_Md_draw hc, q_Md_guilds hc, q_Md_isGuild hc, q_Md_rentsOf hc, q_Md_within hc, rT_76_10, rT_76_25, q_Md_clouded_1 hc, q_Md_clouded_2 hc, q_Md_clouded_3 hc, q_Md_clouded_4 hc, q_Md_clouded_5 hc]
set_option maxRecDepth 100000 in
set_option maxHeartbeats 400000 in
theorem q_Md_count {c : Nat} (hc : isChap c) {v1 : Int32} {N : hn} : f_Md_count S0 76 v1 (N.1, N.2, rT c) = em c (F_Md_count c v1 N) := by
  unfold f_Md_count F_Md_count
  try simp only [my_ite, my_hg]
  simp only [hl_n', hl_wI', hl_wL', hl_cp', em_s', em_n', em_my, em_l', em_b, em_v, emv_s', emv_n', emv_my, emv_l', emv_b, emv_v, hb_em, hv_em, my_T, my_F, ne_eq, not_false_eq_true, nz_c, S0_c, S0_lw, S0_h, isHold_36, hc, hc.d, hc.l, hc.d.l, nz_1, nz_2, nz_3, nz_4, nz_5, nz_6, nz_7, nz_8, S0_76, ib_82, ib_88, q_Md_bits hc, q_Md_guilds hc, q_Md_panes hc, q_Md_seens hc, rT_76_10, rT_76_20]
set_option maxRecDepth 100000 in
set_option maxHeartbeats 400000 in
theorem q_Md_exchange {c : Nat} (hc : isChap c) {v1 : Int32} {v2 : Int32} {N : hn} : f_Md_exchange S0 76 v1 v2 (N.1, N.2, rT c) = em c (F_Md_exchange c v1 v2 N) := by
  unfold f_Md_exchange F_Md_exchange
  try simp only [my_ite, my_hg]
  simp only [hl_n', hl_wI', hl_wL', hl_cp', em_s', em_n', em_my, em_l', em_b, em_v, emv_s', emv_n', emv_my, emv_l', emv_b, emv_v, hb_em, hv_em, my_T, my_F, ne_eq, not_false_eq_true, nz_c, S0_c, S0_lw, S0_h, isHold_36, hc, hc.d, hc.l, hc.d.l, nz_1, nz_2, nz_3, nz_4, nz_5, nz_6, nz_7, nz_8, S0_76, ib_88, q_Md_areUnlike hc, q_Md_keeps hc, q_Md_ownerOf hc, rT_76_20]
set_option maxRecDepth 100000 in
set_option maxHeartbeats 400000 in
theorem q_Md_findFalls_6 {c : Nat} (hc : isChap c) {k25 : Nat → Int32 → Int32 → hm_M → Option hm_M} {K25 : Int32 → Int32 → hn → Option hn} (hk25 : ∀ (v1 : Int32) (v2 : Int32) (N : hn), k25 76 v1 v2 (N.1, N.2, rT c) = emv c (K25 v1 v2 N)) {k43 : Nat → Int32 → Int32 → Int32 → Int32 → hm_M → Option hm_M} {K43 : Int32 → Int32 → Int32 → Int32 → hn → Option hn} (hk43 : ∀ (v1 : Int32) (v2 : Int32) (v3 : Int32) (v4 : Int32) (N : hn), k43 76 v1 v2 v3 v4 (N.1, N.2, rT c) = emv c (K43 v1 v2 v3 v4 N)) {k58 : Nat → Int32 → Int32 → Int32 → Int32 → Int32 → Int32 → hm_M → Option hm_M} {K58 : Int32 → Int32 → Int32 → Int32 → Int32 → Int32 → hn → Option hn} (hk58 : ∀ (v1 : Int32) (v2 : Int32) (v3 : Int32) (v4 : Int32) (v5 : Int32) (v6 : Int32) (N : hn), k58 76 v1 v2 v3 v4 v5 v6 (N.1, N.2, rT c) = emv c (K58 v1 v2 v3 v4 v5 v6 N)) {v1 : Int32} {v2 : Int32} {v3 : Int32} {v4 : Int32} {v6 : Int32} {s0 : Int32} {N : hn} : b_Md_findFalls_6 S0 k25 k43 k58 76 v1 v2 v3 v4 v6 s0 (N.1, N.2, rT c) = emv c (B_Md_findFalls_6 c K25 K43 K58 v1 v2 v3 v4 v6 s0 N) := by
  unfold b_Md_findFalls_6 B_Md_findFalls_6
  try simp only [my_ite, my_hg]
  simp only [hl_n', hl_wI', hl_wL', hl_cp', em_s', em_n', em_my, em_l', em_b, em_v, emv_s', emv_n', emv_my, emv_l', emv_b, emv_v, hb_em, hv_em, my_T, my_F, ne_eq, not_false_eq_true, nz_c, S0_c, S0_lw, S0_h, isHold_36, hc, hc.d, hc.l, hc.d.l, nz_1, nz_2, nz_3, nz_4, nz_5, nz_6, nz_7, nz_8, S0_76, ib_82, ib_94, q_Md_findYields hc, q_Md_guilds hc, q_Md_isBroken hc, q_Md_ownerOf hc, q_Md_panes hc, q_Md_rentsOf hc, rT_76_10, rT_76_29, hk25, hk43, hk58]
set_option maxRecDepth 100000 in
set_option maxHeartbeats 400000 in
theorem q_Md_findFalls_5 {c : Nat} (hc : isChap c) {k25 : Nat → Int32 → Int32 → hm_M → Option hm_M} {K25 : Int32 → Int32 → hn → Option hn} (hk25 : ∀ (v1 : Int32) (v2 : Int32) (N : hn), k25 76 v1 v2 (N.1, N.2, rT c) = emv c (K25 v1 v2 N)) {k43 : Nat → Int32 → Int32 → Int32 → Int32 → hm_M → Option hm_M} {K43 : Int32 → Int32 → Int32 → Int32 → hn → Option hn} (hk43 : ∀ (v1 : Int32) (v2 : Int32) (v3 : Int32) (v4 : Int32) (N : hn), k43 76 v1 v2 v3 v4 (N.1, N.2, rT c) = emv c (K43 v1 v2 v3 v4 N)) {k58 : Nat → Int32 → Int32 → Int32 → Int32 → Int32 → Int32 → hm_M → Option hm_M} {K58 : Int32 → Int32 → Int32 → Int32 → Int32 → Int32 → hn → Option hn} (hk58 : ∀ (v1 : Int32) (v2 : Int32) (v3 : Int32) (v4 : Int32) (v5 : Int32) (v6 : Int32) (N : hn), k58 76 v1 v2 v3 v4 v5 v6 (N.1, N.2, rT c) = emv c (K58 v1 v2 v3 v4 v5 v6 N)) {v1 : Int32} {v2 : Int32} {v3 : Int32} {v4 : Int32} {v6 : Int32} {N : hn} : b_Md_findFalls_5 S0 k25 k43 k58 76 v1 v2 v3 v4 v6 (N.1, N.2, rT c) = emv c (B_Md_findFalls_5 c K25 K43 K58 v1 v2 v3 v4 v6 N) := by
  unfold b_Md_findFalls_5 B_Md_findFalls_5
  try simp only [my_ite, my_hg]
  simp only [hl_n', hl_wI', hl_wL', hl_cp', em_s', em_n', em_my, em_l', em_b, em_v, emv_s', emv_n', emv_my, emv_l', emv_b, emv_v, hb_em, hv_em, my_T, my_F, ne_eq, not_false_eq_true, nz_c, S0_c, S0_lw, S0_h, isHold_36, hc, hc.d, hc.l, hc.d.l, nz_1, nz_2, nz_3, nz_4, nz_5, nz_6, nz_7, nz_8, S0_76, ib_82, ib_94, q_Md_findYields hc, q_Md_guilds hc, q_Md_isBroken hc, q_Md_ownerOf hc, q_Md_panes hc, q_Md_rentsOf hc, rT_76_10, rT_76_29, hk25, hk43, hk58, q_Md_findFalls_6 hc hk25 hk43 hk58]
set_option maxRecDepth 100000 in
set_option maxHeartbeats 400000 in
theorem r_Md_findFalls_4 {c : Nat} (hc : isChap c) {k25 : Nat → Int32 → Int32 → hm_M → Option hm_M} {K25 : Int32 → Int32 → hn → Option hn} (hk25 : ∀ (v1 : Int32) (v2 : Int32) (N : hn), k25 76 v1 v2 (N.1, N.2, rT c) = emv c (K25 v1 v2 N)) {k43 : Nat → Int32 → Int32 → Int32 → Int32 → hm_M → Option hm_M} {K43 : Int32 → Int32 → Int32 → Int32 → hn → Option hn} (hk43 : ∀ (v1 : Int32) (v2 : Int32) (v3 : Int32) (v4 : Int32) (N : hn), k43 76 v1 v2 v3 v4 (N.1, N.2, rT c) = emv c (K43 v1 v2 v3 v4 N)) {k58 : Nat → Int32 → Int32 → Int32 → Int32 → Int32 → Int32 → hm_M → Option hm_M} {K58 : Int32 → Int32 → Int32 → Int32 → Int32 → Int32 → hn → Option hn} (hk58 : ∀ (v1 : Int32) (v2 : Int32) (v3 : Int32) (v4 : Int32) (v5 : Int32) (v6 : Int32) (N : hn), k58 76 v1 v2 v3 v4 v5 v6 (N.1, N.2, rT c) = emv c (K58 v1 v2 v3 v4 v5 v6 N)) {v1 : Int32} {v2 : Int32} {v3 : Int32} {v4 : Int32} {v5 : Int32} {v6 : Int32} {N : hn} : b_Md_findFalls_4 S0 k25 k43 k58 76 v1 v2 v3 v4 v5 v6 (N.1, N.2, rT c) = emv c (B_Md_findFalls_4 c K25 K43 K58 v1 v2 v3 v4 v5 v6 N) := by
  unfold b_Md_findFalls_4 B_Md_findFalls_4
  try simp only [my_ite, my_hg]
  simp only [hl_n', hl_wI', hl_wL', hl_cp', em_s', em_n', em_my, em_l', em_b, em_v, emv_s', emv_n', emv_my, emv_l', emv_b, emv_v, hb_em, hv_em, my_T, my_F, ne_eq, not_false_eq_true, nz_c, S0_c, S0_lw, S0_h, isHold_36, hc, hc.d, hc.l, hc.d.l, nz_1, nz_2, nz_3, nz_4, nz_5, nz_6, nz_7, nz_8, S0_76, ib_82, ib_94, q_Md_findYields hc, q_Md_guilds hc, q_Md_isBroken hc, q_Md_ownerOf hc, q_Md_panes hc, q_Md_rentsOf hc, rT_76_10, rT_76_29, hk25, hk43, hk58, q_Md_findFalls_6 hc hk25 hk43 hk58, q_Md_findFalls_5 hc hk25 hk43 hk58]
theorem q_Md_findFalls_4 {c : Nat} (hc : isChap c) {k25 : Nat → Int32 → Int32 → hm_M → Option hm_M} {K25 : Int32 → Int32 → hn → Option hn} (hk25 : ∀ (v1 : Int32) (v2 : Int32) (N : hn), k25 76 v1 v2 (N.1, N.2, rT c) = emv c (K25 v1 v2 N)) {k43 : Nat → Int32 → Int32 → Int32 → Int32 → hm_M → Option hm_M} {K43 : Int32 → Int32 → Int32 → Int32 → hn → Option hn} (hk43 : ∀ (v1 : Int32) (v2 : Int32) (v3 : Int32) (v4 : Int32) (N : hn), k43 76 v1 v2 v3 v4 (N.1, N.2, rT c) = emv c (K43 v1 v2 v3 v4 N)) : ∀ (n : Nat) (v1 : Int32) (v2 : Int32) (v3 : Int32) (v4 : Int32) (v5 : Int32) (v6 : Int32) (N : hn), f_Md_findFalls_4 S0 k25 k43 n 76 v1 v2 v3 v4 v5 v6 (N.1, N.2, rT c) = emv c (F_Md_findFalls_4 c K25 K43 n v1 v2 v3 v4 v5 v6 N) := by
  intro n
  induction n with
  | zero => intros; rfl
  | succ n ih => intro v1 v2 v3 v4 v5 v6 N ; exact r_Md_findFalls_4 hc hk25 hk43 ih
set_option maxRecDepth 100000 in
set_option maxHeartbeats 400000 in
theorem r_Md_findFalls_3 {c : Nat} (hc : isChap c) {k25 : Nat → Int32 → Int32 → hm_M → Option hm_M} {K25 : Int32 → Int32 → hn → Option hn} (hk25 : ∀ (v1 : Int32) (v2 : Int32) (N : hn), k25 76 v1 v2 (N.1, N.2, rT c) = emv c (K25 v1 v2 N)) {k43 : Nat → Int32 → Int32 → Int32 → Int32 → hm_M → Option hm_M} {K43 : Int32 → Int32 → Int32 → Int32 → hn → Option hn} (hk43 : ∀ (v1 : Int32) (v2 : Int32) (v3 : Int32) (v4 : Int32) (N : hn), k43 76 v1 v2 v3 v4 (N.1, N.2, rT c) = emv c (K43 v1 v2 v3 v4 N)) {v1 : Int32} {v2 : Int32} {v3 : Int32} {v4 : Int32} {N : hn} : b_Md_findFalls_3 S0 k25 k43 76 v1 v2 v3 v4 (N.1, N.2, rT c) = emv c (B_Md_findFalls_3 c K25 K43 v1 v2 v3 v4 N) := by
  unfold b_Md_findFalls_3 B_Md_findFalls_3
  try simp only [my_ite, my_hg]
  simp only [hl_n', hl_wI', hl_wL', hl_cp', em_s', em_n', em_my, em_l', em_b, em_v, emv_s', emv_n', emv_my, emv_l', emv_b, emv_v, hb_em, hv_em, my_T, my_F, ne_eq, not_false_eq_true, nz_c, S0_c, S0_lw, S0_h, isHold_36, hc, hc.d, hc.l, hc.d.l, nz_1, nz_2, nz_3, nz_4, nz_5, nz_6, nz_7, nz_8, S0_76, ib_82, ib_94, q_Md_findYields hc, q_Md_guilds hc, q_Md_isBroken hc, q_Md_ownerOf hc, q_Md_panes hc, q_Md_rentsOf hc, rT_76_10, rT_76_29, hk25, hk43, q_Md_findFalls_4 hc hk25 hk43]
theorem q_Md_findFalls_3 {c : Nat} (hc : isChap c) {k25 : Nat → Int32 → Int32 → hm_M → Option hm_M} {K25 : Int32 → Int32 → hn → Option hn} (hk25 : ∀ (v1 : Int32) (v2 : Int32) (N : hn), k25 76 v1 v2 (N.1, N.2, rT c) = emv c (K25 v1 v2 N)) : ∀ (n : Nat) (v1 : Int32) (v2 : Int32) (v3 : Int32) (v4 : Int32) (N : hn), f_Md_findFalls_3 S0 k25 n 76 v1 v2 v3 v4 (N.1, N.2, rT c) = emv c (F_Md_findFalls_3 c K25 n v1 v2 v3 v4 N) := by
  intro n
  induction n with
  | zero => intros; rfl
  | succ n ih => intro v1 v2 v3 v4 N ; exact r_Md_findFalls_3 hc hk25 ih
set_option maxRecDepth 100000 in
set_option maxHeartbeats 400000 in
theorem r_Md_findFalls_2 {c : Nat} (hc : isChap c) {k25 : Nat → Int32 → Int32 → hm_M → Option hm_M} {K25 : Int32 → Int32 → hn → Option hn} (hk25 : ∀ (v1 : Int32) (v2 : Int32) (N : hn), k25 76 v1 v2 (N.1, N.2, rT c) = emv c (K25 v1 v2 N)) {v1 : Int32} {v2 : Int32} {N : hn} : b_Md_findFalls_2 S0 k25 76 v1 v2 (N.1, N.2, rT c) = emv c (B_Md_findFalls_2 c K25 v1 v2 N) := by
  unfold b_Md_findFalls_2 B_Md_findFalls_2
  try simp only [my_ite, my_hg]
  simp only [hl_n', hl_wI', hl_wL', hl_cp', em_s', em_n', em_my, em_l', em_b, em_v, emv_s', emv_n', emv_my, emv_l', emv_b, emv_v, hb_em, hv_em, my_T, my_F, ne_eq, not_false_eq_true, nz_c, S0_c, S0_lw, S0_h, isHold_36, hc, hc.d, hc.l, hc.d.l, nz_1, nz_2, nz_3, nz_4, nz_5, nz_6, nz_7, nz_8, S0_76, ib_82, ib_94, q_Md_findYields hc, q_Md_guilds hc, q_Md_isBroken hc, q_Md_ownerOf hc, q_Md_panes hc, q_Md_rentsOf hc, rT_76_10, rT_76_29, hk25, q_Md_findFalls_3 hc hk25]
theorem q_Md_findFalls_2 {c : Nat} (hc : isChap c) : ∀ (n : Nat) (v1 : Int32) (v2 : Int32) (N : hn), f_Md_findFalls_2 S0 n 76 v1 v2 (N.1, N.2, rT c) = emv c (F_Md_findFalls_2 c n v1 v2 N) := by
  intro n
  induction n with
  | zero => intros; rfl
  | succ n ih => intro v1 v2 N ; exact r_Md_findFalls_2 hc  ih
set_option maxRecDepth 100000 in
set_option maxHeartbeats 400000 in
theorem r_Md_findFalls_1 {c : Nat} (hc : isChap c) {k2 : Nat → Int32 → hm_M → Option hm_M} {K2 : Int32 → hn → Option hn} (hk2 : ∀ (v1 : Int32) (N : hn), k2 76 v1 (N.1, N.2, rT c) = emv c (K2 v1 N)) {v1 : Int32} {N : hn} : b_Md_findFalls_1 S0 k2 76 v1 (N.1, N.2, rT c) = emv c (B_Md_findFalls_1 c K2 v1 N) := by
  unfold b_Md_findFalls_1 B_Md_findFalls_1
  try simp only [my_ite, my_hg]
  simp only [hl_n', hl_wI', hl_wL', hl_cp', em_s', em_n', em_my, em_l', em_b, em_v, emv_s', emv_n', emv_my, emv_l', emv_b, emv_v, hb_em, hv_em, my_T, my_F, ne_eq, not_false_eq_true, nz_c, S0_c, S0_lw, S0_h, isHold_36, hc, hc.d, hc.l, hc.d.l, nz_1, nz_2, nz_3, nz_4, nz_5, nz_6, nz_7, nz_8, S0_76, ib_82, ib_94, q_Md_findYields hc, q_Md_guilds hc, q_Md_isBroken hc, q_Md_ownerOf hc, q_Md_panes hc, q_Md_rentsOf hc, rT_76_10, rT_76_29, hk2, q_Md_findFalls_2 hc]
theorem q_Md_findFalls_1 {c : Nat} (hc : isChap c) : ∀ (n : Nat) (v1 : Int32) (N : hn), f_Md_findFalls_1 S0 n 76 v1 (N.1, N.2, rT c) = emv c (F_Md_findFalls_1 c n v1 N) := by
  intro n
  induction n with
  | zero => intros; rfl
  | succ n ih => intro v1 N ; exact r_Md_findFalls_1 hc  ih
set_option maxRecDepth 100000 in
set_option maxHeartbeats 400000 in
theorem q_Md_findFalls {c : Nat} (hc : isChap c) {N : hn} : f_Md_findFalls S0 76 (N.1, N.2, rT c) = emv c (F_Md_findFalls c N) := by
  unfold f_Md_findFalls F_Md_findFalls
  try simp only [my_ite, my_hg]
  simp only [hl_n', hl_wI', hl_wL', hl_cp', em_s', em_n', em_my, em_l', em_b, em_v, emv_s', emv_n', emv_my, emv_l', emv_b, emv_v, hb_em, hv_em, my_T, my_F, ne_eq, not_false_eq_true, nz_c, S0_c, S0_lw, S0_h, isHold_36, hc, hc.d, hc.l, hc.d.l, nz_1, nz_2, nz_3, nz_4, nz_5, nz_6, nz_7, nz_8, S0_76, ib_82, ib_94, q_Md_findYields hc, q_Md_guilds hc, q_Md_isBroken hc, q_Md_ownerOf hc, q_Md_panes hc, q_Md_rentsOf hc, rT_76_10, rT_76_29, q_Md_findFalls_1 hc, q_Md_findFalls_2 hc]
set_option maxRecDepth 100000 in
set_option maxHeartbeats 400000 in
theorem q_Md_fallen_2 {c : Nat} (hc : isChap c) {k13 : Nat → Int32 → Int32 → hm_M → Option (Int32 × hm_M)} {K13 : Int32 → Int32 → hn → Option (Int32 × hn)} (hk13 : ∀ (v1 : Int32) (v2 : Int32) (N : hn), k13 76 v1 v2 (N.1, N.2, rT c) = em c (K13 v1 v2 N)) {v2 : Int32} {s0 : Int32} {s1 : Int32} {N : hn} : b_Md_fallen_2 S0 k13 76 v2 s0 s1 (N.1, N.2, rT c) = em c (B_Md_fallen_2 c K13 v2 s0 s1 N) := by
  unfold b_Md_fallen_2 B_Md_fallen_2
  try simp only [my_ite, my_hg]
  simp only [hl_n', hl_wI', hl_wL', hl_cp', em_s', em_n', em_my, em_l', em_b, em_v, emv_s', emv_n', emv_my, emv_l', emv_b, emv_v, hb_em, hv_em, my_T, my_F, ne_eq, not_false_eq_true, nz_c, S0_c, S0_lw, S0_h, isHold_36, hc, hc.d, hc.l, hc.d.l, nz_1, nz_2, nz_3, nz_4, nz_5, nz_6, nz_7, nz_8, S0_76, ib_94, q_Md_findFalls hc, q_Md_guilds hc, rT_76_29, hk13]
set_option maxRecDepth 100000 in
set_option maxHeartbeats 400000 in
theorem r_Md_fallen_1 {c : Nat} (hc : isChap c) {k13 : Nat → Int32 → Int32 → hm_M → Option (Int32 × hm_M)} {K13 : Int32 → Int32 → hn → Option (Int32 × hn)} (hk13 : ∀ (v1 : Int32) (v2 : Int32) (N : hn), k13 76 v1 v2 (N.1, N.2, rT c) = em c (K13 v1 v2 N)) {v1 : Int32} {v2 : Int32} {N : hn} : b_Md_fallen_1 S0 k13 76 v1 v2 (N.1, N.2, rT c) = em c (B_Md_fallen_1 c K13 v1 v2 N) := by
  unfold b_Md_fallen_1 B_Md_fallen_1
  try simp only [my_ite, my_hg]
  simp only [hl_n', hl_wI', hl_wL', hl_cp', em_s', em_n', em_my, em_l', em_b, em_v, emv_s', emv_n', emv_my, emv_l', emv_b, emv_v, hb_em, hv_em, my_T, my_F, ne_eq, not_false_eq_true, nz_c, S0_c, S0_lw, S0_h, isHold_36, hc, hc.d, hc.l, hc.d.l, nz_1, nz_2, nz_3, nz_4, nz_5, nz_6, nz_7, nz_8, S0_76, ib_94, q_Md_findFalls hc, q_Md_guilds hc, rT_76_29, hk13, q_Md_fallen_2 hc hk13]
theorem q_Md_fallen_1 {c : Nat} (hc : isChap c) : ∀ (n : Nat) (v1 : Int32) (v2 : Int32) (N : hn), f_Md_fallen_1 S0 n 76 v1 v2 (N.1, N.2, rT c) = em c (F_Md_fallen_1 c n v1 v2 N) := by
  intro n
  induction n with
  | zero => intros; rfl
  | succ n ih => intro v1 v2 N ; exact r_Md_fallen_1 hc  ih
set_option maxRecDepth 100000 in
set_option maxHeartbeats 400000 in
theorem q_Md_fallen {c : Nat} (hc : isChap c) {N : hn} : f_Md_fallen S0 76 (N.1, N.2, rT c) = em c (F_Md_fallen c N) := by
  unfold f_Md_fallen F_Md_fallen
  try simp only [my_ite, my_hg]
  simp only [hl_n', hl_wI', hl_wL', hl_cp', em_s', em_n', em_my, em_l', em_b, em_v, emv_s', emv_n', emv_my, emv_l', emv_b, emv_v, hb_em, hv_em, my_T, my_F, ne_eq, not_false_eq_true, nz_c, S0_c, S0_lw, S0_h, isHold_36, hc, hc.d, hc.l, hc.d.l, nz_1, nz_2, nz_3, nz_4, nz_5, nz_6, nz_7, nz_8, S0_76, ib_94, q_Md_findFalls hc, q_Md_guilds hc, rT_76_29, q_Md_fallen_1 hc]
set_option maxRecDepth 100000 in
set_option maxHeartbeats 400000 in
theorem q_Md_falls {c : Nat} (hc : isChap c) {v1 : Int32} {N : hn} : f_Md_falls S0 76 v1 (N.1, N.2, rT c) = em c (F_Md_falls c v1 N) := by
  unfold f_Md_falls F_Md_falls
  try simp only [my_ite, my_hg]
  simp only [hl_n', hl_wI', hl_wL', hl_cp', em_s', em_n', em_my, em_l', em_b, em_v, emv_s', emv_n', emv_my, emv_l', emv_b, emv_v, hb_em, hv_em, my_T, my_F, ne_eq, not_false_eq_true, nz_c, S0_c, S0_lw, S0_h, isHold_36, hc, hc.d, hc.l, hc.d.l, nz_1, nz_2, nz_3, nz_4, nz_5, nz_6, nz_7, nz_8, S0_76, ib_94, q_Md_findFalls hc, q_Md_isGuild hc, rT_76_29]
set_option maxRecDepth 100000 in
set_option maxHeartbeats 400000 in
theorem q_Md_lay_2 {c : Nat} (hc : isChap c) {k3 : Nat → Int64 → Int32 → hm_M → Option hm_M} {K3 : Int64 → Int32 → hn → Option hn} (hk3 : ∀ (v1 : Int64) (v3 : Int32) (N : hn), k3 76 v1 v3 (N.1, N.2, rT c) = emv c (K3 v1 v3 N)) {v1 : Int64} {v3 : Int32} {v4 : Int32} {N : hn} : b_Md_lay_2 S0 k3 76 v1 v3 v4 (N.1, N.2, rT c) = emv c (B_Md_lay_2 c K3 v1 v3 v4 N) := by
  unfold b_Md_lay_2 B_Md_lay_2
  try simp only [my_ite, my_hg]
  simp only [hl_n', hl_wI', hl_wL', hl_cp', em_s', em_n', em_my, em_l', em_b, em_v, emv_s', emv_n', emv_my, emv_l', emv_b, emv_v, hb_em, hv_em, my_T, my_F, ne_eq, not_false_eq_true, nz_c, S0_c, S0_lw, S0_h, isHold_36, hc, hc.d, hc.l, hc.d.l, nz_1, nz_2, nz_3, nz_4, nz_5, nz_6, nz_7, nz_8, S0_76, ib_77, rT_76_1, hk3]
set_option maxRecDepth 100000 in
set_option maxHeartbeats 400000 in
theorem r_Md_lay_1 {c : Nat} (hc : isChap c) {k3 : Nat → Int64 → Int32 → hm_M → Option hm_M} {K3 : Int64 → Int32 → hn → Option hn} (hk3 : ∀ (v1 : Int64) (v3 : Int32) (N : hn), k3 76 v1 v3 (N.1, N.2, rT c) = emv c (K3 v1 v3 N)) {v1 : Int64} {v3 : Int32} {N : hn} : b_Md_lay_1 S0 k3 76 v1 v3 (N.1, N.2, rT c) = emv c (B_Md_lay_1 c K3 v1 v3 N) := by
  unfold b_Md_lay_1 B_Md_lay_1
  try simp only [my_ite, my_hg]
  simp only [hl_n', hl_wI', hl_wL', hl_cp', em_s', em_n', em_my, em_l', em_b, em_v, emv_s', emv_n', emv_my, emv_l', emv_b, emv_v, hb_em, hv_em, my_T, my_F, ne_eq, not_false_eq_true, nz_c, S0_c, S0_lw, S0_h, isHold_36, hc, hc.d, hc.l, hc.d.l, nz_1, nz_2, nz_3, nz_4, nz_5, nz_6, nz_7, nz_8, S0_76, ib_77, rT_76_1, hk3, q_Md_lay_2 hc hk3]
theorem q_Md_lay_1 {c : Nat} (hc : isChap c) : ∀ (n : Nat) (v1 : Int64) (v3 : Int32) (N : hn), f_Md_lay_1 S0 n 76 v1 v3 (N.1, N.2, rT c) = emv c (F_Md_lay_1 c n v1 v3 N) := by
  intro n
  induction n with
  | zero => intros; rfl
  | succ n ih => intro v1 v3 N ; exact r_Md_lay_1 hc  ih
set_option maxRecDepth 100000 in
set_option maxHeartbeats 400000 in
theorem q_Md_lay {c : Nat} (hc : isChap c) {v1 : Int64} {N : hn} : f_Md_lay S0 76 v1 (N.1, N.2, rT c) = emv c (F_Md_lay c v1 N) := by
  unfold f_Md_lay F_Md_lay
  try simp only [my_ite, my_hg]
  simp only [hl_n', hl_wI', hl_wL', hl_cp', em_s', em_n', em_my, em_l', em_b, em_v, emv_s', emv_n', emv_my, emv_l', emv_b, emv_v, hb_em, hv_em, my_T, my_F, ne_eq, not_false_eq_true, nz_c, S0_c, S0_lw, S0_h, isHold_36, hc, hc.d, hc.l, hc.d.l, nz_1, nz_2, nz_3, nz_4, nz_5, nz_6, nz_7, nz_8, S0_76, ib_77, rT_76_1, q_Md_lay_1 hc]
set_option maxRecDepth 100000 in
set_option maxHeartbeats 400000 in
theorem q_Md_feed {c : Nat} (hc : isChap c) {v1 : Int64} {v3 : Int64} {v5 : Int64} {N : hn} : f_Md_feed S0 76 v1 v3 v5 (N.1, N.2, rT c) = em c (F_Md_feed c v1 v3 v5 N) := by
  unfold f_Md_feed F_Md_feed
  try simp only [my_ite, my_hg]
  simp only [hl_n', hl_wI', hl_wL', hl_cp', em_s', em_n', em_my, em_l', em_b, em_v, emv_s', emv_n', emv_my, emv_l', emv_b, emv_v, hb_em, hv_em, my_T, my_F, ne_eq, not_false_eq_true, nz_c, S0_c, S0_lw, S0_h, isHold_36, hc, hc.d, hc.l, hc.d.l, nz_1, nz_2, nz_3, nz_4, nz_5, nz_6, nz_7, nz_8, S0_76, q_Md_lay hc]
set_option maxRecDepth 100000 in
set_option maxHeartbeats 400000 in
theorem q_Md_isPlace {c : Nat} (hc : isChap c) {v1 : Int32} {N : hn} : f_Md_isPlace S0 76 v1 (N.1, N.2, rT c) = em c (F_Md_isPlace c v1 N) := by
  unfold f_Md_isPlace F_Md_isPlace
  try simp only [my_ite, my_hg]
  simp only [hl_n', hl_wI', hl_wL', hl_cp', em_s', em_n', em_my, em_l', em_b, em_v, emv_s', emv_n', emv_my, emv_l', emv_b, emv_v, hb_em, hv_em, my_T, my_F, ne_eq, not_false_eq_true, nz_c, S0_c, S0_lw, S0_h, isHold_36, hc, hc.d, hc.l, hc.d.l, nz_1, nz_2, nz_3, nz_4, nz_5, nz_6, nz_7, nz_8, S0_76, q_Md_isOn hc]
set_option maxRecDepth 100000 in
set_option maxHeartbeats 400000 in
theorem q_Md_findMay_7 {c : Nat} (hc : isChap c) {k101 : Nat → Int32 → Int32 → Int32 → hm_M → Option hm_M} {K101 : Int32 → Int32 → Int32 → hn → Option hn} (hk101 : ∀ (v4 : Int32) (v5 : Int32) (v6 : Int32) (N : hn), k101 76 v4 v5 v6 (N.1, N.2, rT c) = emv c (K101 v4 v5 v6 N)) {v4 : Int32} {v5 : Int32} {v6 : Int32} {s0 : Int32} {s1 : Int32} {N : hn} : b_Md_findMay_7 S0 k101 76 v4 v5 v6 s0 s1 95 (N.1, N.2, rT c) = emv c (B_Md_findMay_7 c K101 v4 v5 v6 s0 s1 N) := by
  unfold b_Md_findMay_7 B_Md_findMay_7
  try simp only [my_ite, my_hg]
  simp only [hl_n', hl_wI', hl_wL', hl_cp', em_s', em_n', em_my, em_l', em_b, em_v, emv_s', emv_n', emv_my, emv_l', emv_b, emv_v, hb_em, hv_em, my_T, my_F, ne_eq, not_false_eq_true, nz_c, S0_c, S0_lw, S0_h, isHold_36, hc, hc.d, hc.l, hc.d.l, nz_1, nz_2, nz_3, nz_4, nz_5, nz_6, nz_7, nz_8, S0_76, ib_95, q_Md_findLight hc, q_Md_isPlace hc, q_Md_lightAt hc, rT_76_30, hk101]
set_option maxRecDepth 100000 in
set_option maxHeartbeats 400000 in
theorem r_Md_findMay_6 {c : Nat} (hc : isChap c) {k101 : Nat → Int32 → Int32 → Int32 → hm_M → Option hm_M} {K101 : Int32 → Int32 → Int32 → hn → Option hn} (hk101 : ∀ (v4 : Int32) (v5 : Int32) (v6 : Int32) (N : hn), k101 76 v4 v5 v6 (N.1, N.2, rT c) = emv c (K101 v4 v5 v6 N)) {v4 : Int32} {v5 : Int32} {v6 : Int32} {N : hn} : b_Md_findMay_6 S0 k101 76 v4 v5 v6 (N.1, N.2, rT c) = emv c (B_Md_findMay_6 c K101 v4 v5 v6 N) := by
  unfold b_Md_findMay_6 B_Md_findMay_6
  try simp only [my_ite, my_hg]
  simp only [hl_n', hl_wI', hl_wL', hl_cp', em_s', em_n', em_my, em_l', em_b, em_v, emv_s', emv_n', emv_my, emv_l', emv_b, emv_v, hb_em, hv_em, my_T, my_F, ne_eq, not_false_eq_true, nz_c, S0_c, S0_lw, S0_h, isHold_36, hc, hc.d, hc.l, hc.d.l, nz_1, nz_2, nz_3, nz_4, nz_5, nz_6, nz_7, nz_8, S0_76, ib_95, q_Md_findLight hc, q_Md_isPlace hc, q_Md_lightAt hc, rT_76_30, hk101, q_Md_findMay_7 hc hk101]
theorem q_Md_findMay_6 {c : Nat} (hc : isChap c) : ∀ (n : Nat) (v4 : Int32) (v5 : Int32) (v6 : Int32) (N : hn), f_Md_findMay_6 S0 n 76 v4 v5 v6 (N.1, N.2, rT c) = emv c (F_Md_findMay_6 c n v4 v5 v6 N) := by
  intro n
  induction n with
  | zero => intros; rfl
  | succ n ih => intro v4 v5 v6 N ; exact r_Md_findMay_6 hc  ih
set_option maxRecDepth 100000 in
set_option maxHeartbeats 400000 in
theorem q_Md_findMay_5 {c : Nat} (hc : isChap c) {k12 : Nat → Int32 → Int32 → Int32 → Int32 → hm_M → Option hm_M} {K12 : Int32 → Int32 → Int32 → Int32 → hn → Option hn} (hk12 : ∀ (v1 : Int32) (v4 : Int32) (v5 : Int32) (v6 : Int32) (N : hn), k12 76 v1 v4 v5 v6 (N.1, N.2, rT c) = emv c (K12 v1 v4 v5 v6 N)) {v1 : Int32} {v4 : Int32} {v5 : Int32} {v6 : Int32} {s0 : Int32} {s1 : Int32} {N : hn} : b_Md_findMay_5 S0 k12 76 v1 v4 v5 v6 s0 s1 95 (N.1, N.2, rT c) = emv c (B_Md_findMay_5 c K12 v1 v4 v5 v6 s0 s1 N) := by
  unfold b_Md_findMay_5 B_Md_findMay_5
  try simp only [my_ite, my_hg]
  simp only [hl_n', hl_wI', hl_wL', hl_cp', em_s', em_n', em_my, em_l', em_b, em_v, emv_s', emv_n', emv_my, emv_l', emv_b, emv_v, hb_em, hv_em, my_T, my_F, ne_eq, not_false_eq_true, nz_c, S0_c, S0_lw, S0_h, isHold_36, hc, hc.d, hc.l, hc.d.l, nz_1, nz_2, nz_3, nz_4, nz_5, nz_6, nz_7, nz_8, S0_76, ib_95, q_Md_findLight hc, q_Md_isPlace hc, q_Md_lightAt hc, rT_76_30, hk12, q_Md_findMay_6 hc]
set_option maxRecDepth 100000 in
set_option maxHeartbeats 400000 in
theorem q_Md_findMay_4 {c : Nat} (hc : isChap c) {k12 : Nat → Int32 → Int32 → Int32 → Int32 → hm_M → Option hm_M} {K12 : Int32 → Int32 → Int32 → Int32 → hn → Option hn} (hk12 : ∀ (v1 : Int32) (v4 : Int32) (v5 : Int32) (v6 : Int32) (N : hn), k12 76 v1 v4 v5 v6 (N.1, N.2, rT c) = emv c (K12 v1 v4 v5 v6 N)) {v1 : Int32} {v4 : Int32} {v6 : Int32} {v7 : Int32} {s0 : Int32} {N : hn} : b_Md_findMay_4 S0 k12 76 v1 v4 v6 v7 s0 (N.1, N.2, rT c) = emv c (B_Md_findMay_4 c K12 v1 v4 v6 v7 s0 N) := by
  unfold b_Md_findMay_4 B_Md_findMay_4
  try simp only [my_ite, my_hg]
  simp only [hl_n', hl_wI', hl_wL', hl_cp', em_s', em_n', em_my, em_l', em_b, em_v, emv_s', emv_n', emv_my, emv_l', emv_b, emv_v, hb_em, hv_em, my_T, my_F, ne_eq, not_false_eq_true, nz_c, S0_c, S0_lw, S0_h, isHold_36, hc, hc.d, hc.l, hc.d.l, nz_1, nz_2, nz_3, nz_4, nz_5, nz_6, nz_7, nz_8, S0_76, ib_95, q_Md_findLight hc, q_Md_isPlace hc, q_Md_lightAt hc, rT_76_30, hk12, q_Md_findMay_6 hc, q_Md_findMay_5 hc hk12]
set_option maxRecDepth 100000 in
set_option maxHeartbeats 400000 in
theorem q_Md_findMay_3 {c : Nat} (hc : isChap c) {k12 : Nat → Int32 → Int32 → Int32 → Int32 → hm_M → Option hm_M} {K12 : Int32 → Int32 → Int32 → Int32 → hn → Option hn} (hk12 : ∀ (v1 : Int32) (v4 : Int32) (v5 : Int32) (v6 : Int32) (N : hn), k12 76 v1 v4 v5 v6 (N.1, N.2, rT c) = emv c (K12 v1 v4 v5 v6 N)) {v1 : Int32} {v4 : Int32} {v5 : Int32} {v6 : Int32} {s0 : Int32} {N : hn} : b_Md_findMay_3 S0 k12 76 v1 v4 v5 v6 s0 (N.1, N.2, rT c) = emv c (B_Md_findMay_3 c K12 v1 v4 v5 v6 s0 N) := by
  unfold b_Md_findMay_3 B_Md_findMay_3
  try simp only [my_ite, my_hg]
  simp only [hl_n', hl_wI', hl_wL', hl_cp', em_s', em_n', em_my, em_l', em_b, em_v, emv_s', emv_n', emv_my, emv_l', emv_b, emv_v, hb_em, hv_em, my_T, my_F, ne_eq, not_false_eq_true, nz_c, S0_c, S0_lw, S0_h, isHold_36, hc, hc.d, hc.l, hc.d.l, nz_1, nz_2, nz_3, nz_4, nz_5, nz_6, nz_7, nz_8, S0_76, ib_95, q_Md_findLight hc, q_Md_isPlace hc, q_Md_lightAt hc, rT_76_30, hk12, q_Md_findMay_6 hc, q_Md_findMay_5 hc hk12, q_Md_findMay_4 hc hk12]
set_option maxRecDepth 100000 in
set_option maxHeartbeats 400000 in
theorem q_Md_findMay_2 {c : Nat} (hc : isChap c) {k12 : Nat → Int32 → Int32 → Int32 → Int32 → hm_M → Option hm_M} {K12 : Int32 → Int32 → Int32 → Int32 → hn → Option hn} (hk12 : ∀ (v1 : Int32) (v4 : Int32) (v5 : Int32) (v6 : Int32) (N : hn), k12 76 v1 v4 v5 v6 (N.1, N.2, rT c) = emv c (K12 v1 v4 v5 v6 N)) {v1 : Int32} {v4 : Int32} {v5 : Int32} {v6 : Int32} {N : hn} : b_Md_findMay_2 S0 k12 76 v1 v4 v5 v6 (N.1, N.2, rT c) = emv c (B_Md_findMay_2 c K12 v1 v4 v5 v6 N) := by
  unfold b_Md_findMay_2 B_Md_findMay_2
  try simp only [my_ite, my_hg]
  simp only [hl_n', hl_wI', hl_wL', hl_cp', em_s', em_n', em_my, em_l', em_b, em_v, emv_s', emv_n', emv_my, emv_l', emv_b, emv_v, hb_em, hv_em, my_T, my_F, ne_eq, not_false_eq_true, nz_c, S0_c, S0_lw, S0_h, isHold_36, hc, hc.d, hc.l, hc.d.l, nz_1, nz_2, nz_3, nz_4, nz_5, nz_6, nz_7, nz_8, S0_76, ib_95, q_Md_findLight hc, q_Md_isPlace hc, q_Md_lightAt hc, rT_76_30, hk12, q_Md_findMay_6 hc, q_Md_findMay_5 hc hk12, q_Md_findMay_4 hc hk12, q_Md_findMay_3 hc hk12]
set_option maxRecDepth 100000 in
set_option maxHeartbeats 400000 in
theorem r_Md_findMay_1 {c : Nat} (hc : isChap c) {k12 : Nat → Int32 → Int32 → Int32 → Int32 → hm_M → Option hm_M} {K12 : Int32 → Int32 → Int32 → Int32 → hn → Option hn} (hk12 : ∀ (v1 : Int32) (v4 : Int32) (v5 : Int32) (v6 : Int32) (N : hn), k12 76 v1 v4 v5 v6 (N.1, N.2, rT c) = emv c (K12 v1 v4 v5 v6 N)) {v1 : Int32} {v4 : Int32} {v5 : Int32} {v6 : Int32} {N : hn} : b_Md_findMay_1 S0 k12 76 v1 v4 v5 v6 (N.1, N.2, rT c) = emv c (B_Md_findMay_1 c K12 v1 v4 v5 v6 N) := by
  unfold b_Md_findMay_1 B_Md_findMay_1
  try simp only [my_ite, my_hg]
  simp only [hl_n', hl_wI', hl_wL', hl_cp', em_s', em_n', em_my, em_l', em_b, em_v, emv_s', emv_n', emv_my, emv_l', emv_b, emv_v, hb_em, hv_em, my_T, my_F, ne_eq, not_false_eq_true, nz_c, S0_c, S0_lw, S0_h, isHold_36, hc, hc.d, hc.l, hc.d.l, nz_1, nz_2, nz_3, nz_4, nz_5, nz_6, nz_7, nz_8, S0_76, ib_95, q_Md_findLight hc, q_Md_isPlace hc, q_Md_lightAt hc, rT_76_30, hk12, q_Md_findMay_6 hc, q_Md_findMay_5 hc hk12, q_Md_findMay_4 hc hk12, q_Md_findMay_3 hc hk12, q_Md_findMay_2 hc hk12]
