/-! the resolved layer is right (by program) -/
set_option maxRecDepth 100000 in
set_option maxHeartbeats 400000 in
theorem q_Tape_isBlank {c : Nat} (hc : isChap c) {v0 : Int32} {N : hn} : f_Tape_isBlank S0 v0 (N.1, N.2, rT c) = em c (F_Tape_isBlank c v0 N) := by
  unfold f_Tape_isBlank F_Tape_isBlank
  try simp only [my_ite, my_hg]
  simp only [hl_n', hl_wI', hl_wL', hl_cp', em_s', em_n', em_my, em_l', em_b, em_v, emv_s', emv_n', emv_my, emv_l', emv_b, emv_v, hb_em, hv_em, my_T, my_F, ne_eq, not_false_eq_true, nz_c, S0_c, S0_lw, S0_h, isHold_36, hc, hc.d, hc.l, hc.d.l, nz_1, nz_2, nz_3, nz_4, nz_5, nz_6, nz_7, nz_8, S0_3]
set_option maxRecDepth 100000 in
set_option maxHeartbeats 400000 in
theorem q_Tape_isLetter {c : Nat} (hc : isChap c) {v0 : Int32} {N : hn} : f_Tape_isLetter S0 v0 (N.1, N.2, rT c) = em c (F_Tape_isLetter c v0 N) := by
  unfold f_Tape_isLetter F_Tape_isLetter
  try simp only [my_ite, my_hg]
  simp only [hl_n', hl_wI', hl_wL', hl_cp', em_s', em_n', em_my, em_l', em_b, em_v, emv_s', emv_n', emv_my, emv_l', emv_b, emv_v, hb_em, hv_em, my_T, my_F, ne_eq, not_false_eq_true, nz_c, S0_c, S0_lw, S0_h, isHold_36, hc, hc.d, hc.l, hc.d.l, nz_1, nz_2, nz_3, nz_4, nz_5, nz_6, nz_7, nz_8, S0_3]
set_option maxRecDepth 100000 in
set_option maxHeartbeats 400000 in
theorem r_Tape_takeLetters_1 {c : Nat} (hc : isChap c) {k5 : Nat → hm_M → Option hm_M} {K5 : hn → Option hn} (hk5 : ∀ (N : hn), k5 3 (N.1, N.2, rT c) = emv c (K5 N)) {N : hn} : b_Tape_takeLetters_1 S0 k5 3 (N.1, N.2, rT c) = emv c (B_Tape_takeLetters_1 c K5 N) := by
  unfold b_Tape_takeLetters_1 B_Tape_takeLetters_1
  try simp only [my_ite, my_hg]
  simp only [hl_n', hl_wI', hl_wL', hl_cp', em_s', em_n', em_my, em_l', em_b, em_v, emv_s', emv_n', emv_my, emv_l', emv_b, emv_v, hb_em, hv_em, my_T, my_F, ne_eq, not_false_eq_true, nz_c, S0_c, S0_lw, S0_h, isHold_36, hc, hc.d, hc.l, hc.d.l, nz_1, nz_2, nz_3, nz_4, nz_5, nz_6, nz_7, nz_8, S0_3, ib_4, q_Tape_isLetter hc, rT_3_0, hk5]
theorem q_Tape_takeLetters_1 {c : Nat} (hc : isChap c) : ∀ (n : Nat) (N : hn), f_Tape_takeLetters_1 S0 n 3 (N.1, N.2, rT c) = emv c (F_Tape_takeLetters_1 c n N) := by
  intro n
  induction n with
  | zero => intros; rfl
  | succ n ih => intro  N ; exact r_Tape_takeLetters_1 hc  ih
set_option maxRecDepth 100000 in
set_option maxHeartbeats 400000 in
theorem q_Tape_takeLetters {c : Nat} (hc : isChap c) {N : hn} : f_Tape_takeLetters S0 3 (N.1, N.2, rT c) = emv c (F_Tape_takeLetters c N) := by
  unfold f_Tape_takeLetters F_Tape_takeLetters
  try simp only [my_ite, my_hg]
  simp only [hl_n', hl_wI', hl_wL', hl_cp', em_s', em_n', em_my, em_l', em_b, em_v, emv_s', emv_n', emv_my, emv_l', emv_b, emv_v, hb_em, hv_em, my_T, my_F, ne_eq, not_false_eq_true, nz_c, S0_c, S0_lw, S0_h, isHold_36, hc, hc.d, hc.l, hc.d.l, nz_1, nz_2, nz_3, nz_4, nz_5, nz_6, nz_7, nz_8, S0_3, ib_4, q_Tape_isLetter hc, rT_3_0, q_Tape_takeLetters_1 hc]
set_option maxRecDepth 100000 in
set_option maxHeartbeats 400000 in
theorem q_Tape_kindOfWord_4 {c : Nat} (hc : isChap c) {k11 : Nat → Int32 → Int32 → Int32 → Int32 → hm_M → Option (Int32 × hm_M)} {K11 : Int32 → Int32 → Int32 → Int32 → hn → Option (Int32 × hn)} (hk11 : ∀ (v1 : Int32) (v2 : Int32) (v3 : Int32) (v4 : Int32) (N : hn), k11 3 v1 v2 v3 v4 (N.1, N.2, rT c) = em c (K11 v1 v2 v3 v4 N)) {v1 : Int32} {v4 : Int32} {N : hn} : b_Tape_kindOfWord_4 S0 k11 3 v1 v4 (N.1, N.2, rT c) = em c (B_Tape_kindOfWord_4 c K11 v1 v4 N) := by
  unfold b_Tape_kindOfWord_4 B_Tape_kindOfWord_4
  try simp only [my_ite, my_hg]
  simp only [hl_n', hl_wI', hl_wL', hl_cp', em_s', em_n', em_my, em_l', em_b, em_v, emv_s', emv_n', emv_my, emv_l', emv_b, emv_v, hb_em, hv_em, my_T, my_F, ne_eq, not_false_eq_true, nz_c, S0_c, S0_lw, S0_h, isHold_36, hc, hc.d, hc.l, hc.d.l, nz_1, nz_2, nz_3, nz_4, nz_5, nz_6, nz_7, nz_8, S0_3, ib_4, rT_3_0, hk11]
set_option maxRecDepth 100000 in
set_option maxHeartbeats 400000 in
theorem q_Tape_kindOfWord_3 {c : Nat} (hc : isChap c) {k11 : Nat → Int32 → Int32 → Int32 → Int32 → hm_M → Option (Int32 × hm_M)} {K11 : Int32 → Int32 → Int32 → Int32 → hn → Option (Int32 × hn)} (hk11 : ∀ (v1 : Int32) (v2 : Int32) (v3 : Int32) (v4 : Int32) (N : hn), k11 3 v1 v2 v3 v4 (N.1, N.2, rT c) = em c (K11 v1 v2 v3 v4 N)) {v1 : Int32} {v2 : Int32} {v4 : Int32} {s0 : Int32} {N : hn} : b_Tape_kindOfWord_3 S0 k11 3 v1 v2 v4 s0 (N.1, N.2, rT c) = em c (B_Tape_kindOfWord_3 c K11 v1 v2 v4 s0 N) := by
  unfold b_Tape_kindOfWord_3 B_Tape_kindOfWord_3
  try simp only [my_ite, my_hg]
  simp only [hl_n', hl_wI', hl_wL', hl_cp', em_s', em_n', em_my, em_l', em_b, em_v, emv_s', emv_n', emv_my, emv_l', emv_b, emv_v, hb_em, hv_em, my_T, my_F, ne_eq, not_false_eq_true, nz_c, S0_c, S0_lw, S0_h, isHold_36, hc, hc.d, hc.l, hc.d.l, nz_1, nz_2, nz_3, nz_4, nz_5, nz_6, nz_7, nz_8, S0_3, ib_4, rT_3_0, hk11, q_Tape_kindOfWord_4 hc hk11]
set_option maxRecDepth 100000 in
set_option maxHeartbeats 400000 in
theorem q_Tape_kindOfWord_2 {c : Nat} (hc : isChap c) {k11 : Nat → Int32 → Int32 → Int32 → Int32 → hm_M → Option (Int32 × hm_M)} {K11 : Int32 → Int32 → Int32 → Int32 → hn → Option (Int32 × hn)} (hk11 : ∀ (v1 : Int32) (v2 : Int32) (v3 : Int32) (v4 : Int32) (N : hn), k11 3 v1 v2 v3 v4 (N.1, N.2, rT c) = em c (K11 v1 v2 v3 v4 N)) {v1 : Int32} {v2 : Int32} {v4 : Int32} {N : hn} : b_Tape_kindOfWord_2 S0 k11 3 v1 v2 v4 (N.1, N.2, rT c) = em c (B_Tape_kindOfWord_2 c K11 v1 v2 v4 N) := by
  unfold b_Tape_kindOfWord_2 B_Tape_kindOfWord_2
  try simp only [my_ite, my_hg]
  simp only [hl_n', hl_wI', hl_wL', hl_cp', em_s', em_n', em_my, em_l', em_b, em_v, emv_s', emv_n', emv_my, emv_l', emv_b, emv_v, hb_em, hv_em, my_T, my_F, ne_eq, not_false_eq_true, nz_c, S0_c, S0_lw, S0_h, isHold_36, hc, hc.d, hc.l, hc.d.l, nz_1, nz_2, nz_3, nz_4, nz_5, nz_6, nz_7, nz_8, S0_3, ib_4, rT_3_0, hk11, q_Tape_kindOfWord_4 hc hk11, q_Tape_kindOfWord_3 hc hk11]
set_option maxRecDepth 100000 in
set_option maxHeartbeats 400000 in
theorem r_Tape_kindOfWord_1 {c : Nat} (hc : isChap c) {k11 : Nat → Int32 → Int32 → Int32 → Int32 → hm_M → Option (Int32 × hm_M)} {K11 : Int32 → Int32 → Int32 → Int32 → hn → Option (Int32 × hn)} (hk11 : ∀ (v1 : Int32) (v2 : Int32) (v3 : Int32) (v4 : Int32) (N : hn), k11 3 v1 v2 v3 v4 (N.1, N.2, rT c) = em c (K11 v1 v2 v3 v4 N)) {v1 : Int32} {v2 : Int32} {v3 : Int32} {v4 : Int32} {N : hn} : b_Tape_kindOfWord_1 S0 k11 3 v1 v2 v3 v4 (N.1, N.2, rT c) = em c (B_Tape_kindOfWord_1 c K11 v1 v2 v3 v4 N) := by
  unfold b_Tape_kindOfWord_1 B_Tape_kindOfWord_1
  try simp only [my_ite, my_hg]
  simp only [hl_n', hl_wI', hl_wL', hl_cp', em_s', em_n', em_my, em_l', em_b, em_v, emv_s', emv_n', emv_my, emv_l', emv_b, emv_v, hb_em, hv_em, my_T, my_F, ne_eq, not_false_eq_true, nz_c, S0_c, S0_lw, S0_h, isHold_36, hc, hc.d, hc.l, hc.d.l, nz_1, nz_2, nz_3, nz_4, nz_5, nz_6, nz_7, nz_8, S0_3, ib_4, rT_3_0, hk11, q_Tape_kindOfWord_4 hc hk11, q_Tape_kindOfWord_3 hc hk11, q_Tape_kindOfWord_2 hc hk11]
theorem q_Tape_kindOfWord_1 {c : Nat} (hc : isChap c) : ∀ (n : Nat) (v1 : Int32) (v2 : Int32) (v3 : Int32) (v4 : Int32) (N : hn), f_Tape_kindOfWord_1 S0 n 3 v1 v2 v3 v4 (N.1, N.2, rT c) = em c (F_Tape_kindOfWord_1 c n v1 v2 v3 v4 N) := by
  intro n
  induction n with
  | zero => intros; rfl
  | succ n ih => intro v1 v2 v3 v4 N ; exact r_Tape_kindOfWord_1 hc  ih
set_option maxRecDepth 100000 in
set_option maxHeartbeats 400000 in
theorem q_Tape_kindOfWord {c : Nat} (hc : isChap c) {N : hn} : f_Tape_kindOfWord S0 3 (N.1, N.2, rT c) = em c (F_Tape_kindOfWord c N) := by
  unfold f_Tape_kindOfWord F_Tape_kindOfWord
  try simp only [my_ite, my_hg]
  simp only [hl_n', hl_wI', hl_wL', hl_cp', em_s', em_n', em_my, em_l', em_b, em_v, emv_s', emv_n', emv_my, emv_l', emv_b, emv_v, hb_em, hv_em, my_T, my_F, ne_eq, not_false_eq_true, nz_c, S0_c, S0_lw, S0_h, isHold_36, hc, hc.d, hc.l, hc.d.l, nz_1, nz_2, nz_3, nz_4, nz_5, nz_6, nz_7, nz_8, S0_3, ib_4, rT_3_0, q_Tape_kindOfWord_1 hc]
set_option maxRecDepth 100000 in
set_option maxHeartbeats 400000 in
theorem q_Tape_isDigit {c : Nat} (hc : isChap c) {v0 : Int32} {N : hn} : f_Tape_isDigit S0 v0 (N.1, N.2, rT c) = em c (F_Tape_isDigit c v0 N) := by
  unfold f_Tape_isDigit F_Tape_isDigit
  try simp only [my_ite, my_hg]
  simp only [hl_n', hl_wI', hl_wL', hl_cp', em_s', em_n', em_my, em_l', em_b, em_v, emv_s', emv_n', emv_my, emv_l', emv_b, emv_v, hb_em, hv_em, my_T, my_F, ne_eq, not_false_eq_true, nz_c, S0_c, S0_lw, S0_h, isHold_36, hc, hc.d, hc.l, hc.d.l, nz_1, nz_2, nz_3, nz_4, nz_5, nz_6, nz_7, nz_8, S0_3]
set_option maxRecDepth 100000 in
set_option maxHeartbeats 400000 in
theorem r_Tape_takeDigits_1 {c : Nat} (hc : isChap c) {k5 : Nat → hm_M → Option hm_M} {K5 : hn → Option hn} (hk5 : ∀ (N : hn), k5 3 (N.1, N.2, rT c) = emv c (K5 N)) {N : hn} : b_Tape_takeDigits_1 S0 k5 3 (N.1, N.2, rT c) = emv c (B_Tape_takeDigits_1 c K5 N) := by
  unfold b_Tape_takeDigits_1 B_Tape_takeDigits_1
  try simp only [my_ite, my_hg]
  simp only [hl_n', hl_wI', hl_wL', hl_cp', em_s', em_n', em_my, em_l', em_b, em_v, emv_s', emv_n', emv_my, emv_l', emv_b, emv_v, hb_em, hv_em, my_T, my_F, ne_eq, not_false_eq_true, nz_c, S0_c, S0_lw, S0_h, isHold_36, hc, hc.d, hc.l, hc.d.l, nz_1, nz_2, nz_3, nz_4, nz_5, nz_6, nz_7, nz_8, S0_3, ib_4, q_Tape_isDigit hc, rT_3_0, hk5]
theorem q_Tape_takeDigits_1 {c : Nat} (hc : isChap c) : ∀ (n : Nat) (N : hn), f_Tape_takeDigits_1 S0 n 3 (N.1, N.2, rT c) = emv c (F_Tape_takeDigits_1 c n N) := by
  intro n
  induction n with
  | zero => intros; rfl
  | succ n ih => intro  N ; exact r_Tape_takeDigits_1 hc  ih
set_option maxRecDepth 100000 in
set_option maxHeartbeats 400000 in
theorem q_Tape_takeDigits {c : Nat} (hc : isChap c) {N : hn} : f_Tape_takeDigits S0 3 (N.1, N.2, rT c) = emv c (F_Tape_takeDigits c N) := by
  unfold f_Tape_takeDigits F_Tape_takeDigits
  try simp only [my_ite, my_hg]
  simp only [hl_n', hl_wI', hl_wL', hl_cp', em_s', em_n', em_my, em_l', em_b, em_v, emv_s', emv_n', emv_my, emv_l', emv_b, emv_v, hb_em, hv_em, my_T, my_F, ne_eq, not_false_eq_true, nz_c, S0_c, S0_lw, S0_h, isHold_36, hc, hc.d, hc.l, hc.d.l, nz_1, nz_2, nz_3, nz_4, nz_5, nz_6, nz_7, nz_8, S0_3, ib_4, q_Tape_isDigit hc, rT_3_0, q_Tape_takeDigits_1 hc]
set_option maxRecDepth 100000 in
set_option maxHeartbeats 400000 in
theorem q_Tape_next_5 {c : Nat} (hc : isChap c) {s0 : Int32} {N : hn} : b_Tape_next_5 S0 3 s0 3 (N.1, N.2, rT c) = emv c (B_Tape_next_5 c s0 N) := by
  unfold b_Tape_next_5 B_Tape_next_5
  try simp only [my_ite, my_hg]
  simp only [hl_n', hl_wI', hl_wL', hl_cp', em_s', em_n', em_my, em_l', em_b, em_v, emv_s', emv_n', emv_my, emv_l', emv_b, emv_v, hb_em, hv_em, my_T, my_F, ne_eq, not_false_eq_true, nz_c, S0_c, S0_lw, S0_h, isHold_36, hc, hc.d, hc.l, hc.d.l, nz_1, nz_2, nz_3, nz_4, nz_5, nz_6, nz_7, nz_8, S0_3, ib_4, q_Tape_isBlank hc, q_Tape_isDigit hc, q_Tape_isLetter hc, q_Tape_kindOfWord hc, q_Tape_takeDigits hc, q_Tape_takeLetters hc, rT_3_0]
set_option maxRecDepth 100000 in
set_option maxHeartbeats 400000 in
theorem q_Tape_next_4 {c : Nat} (hc : isChap c) {s0 : Int32} {N : hn} : b_Tape_next_4 S0 s0 3 (N.1, N.2, rT c) = emv c (B_Tape_next_4 c s0 N) := by
  unfold b_Tape_next_4 B_Tape_next_4
  try simp only [my_ite, my_hg]
  simp only [hl_n', hl_wI', hl_wL', hl_cp', em_s', em_n', em_my, em_l', em_b, em_v, emv_s', emv_n', emv_my, emv_l', emv_b, emv_v, hb_em, hv_em, my_T, my_F, ne_eq, not_false_eq_true, nz_c, S0_c, S0_lw, S0_h, isHold_36, hc, hc.d, hc.l, hc.d.l, nz_1, nz_2, nz_3, nz_4, nz_5, nz_6, nz_7, nz_8, S0_3, ib_4, q_Tape_isBlank hc, q_Tape_isDigit hc, q_Tape_isLetter hc, q_Tape_kindOfWord hc, q_Tape_takeDigits hc, q_Tape_takeLetters hc, rT_3_0, q_Tape_next_5 hc]
set_option maxRecDepth 100000 in
set_option maxHeartbeats 400000 in
theorem q_Tape_next_3 {c : Nat} (hc : isChap c) {s0 : Int32} {N : hn} : b_Tape_next_3 S0 s0 3 (N.1, N.2, rT c) = emv c (B_Tape_next_3 c s0 N) := by
  unfold b_Tape_next_3 B_Tape_next_3
  try simp only [my_ite, my_hg]
  simp only [hl_n', hl_wI', hl_wL', hl_cp', em_s', em_n', em_my, em_l', em_b, em_v, emv_s', emv_n', emv_my, emv_l', emv_b, emv_v, hb_em, hv_em, my_T, my_F, ne_eq, not_false_eq_true, nz_c, S0_c, S0_lw, S0_h, isHold_36, hc, hc.d, hc.l, hc.d.l, nz_1, nz_2, nz_3, nz_4, nz_5, nz_6, nz_7, nz_8, S0_3, ib_4, q_Tape_isBlank hc, q_Tape_isDigit hc, q_Tape_isLetter hc, q_Tape_kindOfWord hc, q_Tape_takeDigits hc, q_Tape_takeLetters hc, rT_3_0, q_Tape_next_5 hc, q_Tape_next_4 hc]
set_option maxRecDepth 100000 in
set_option maxHeartbeats 400000 in
theorem q_Tape_next_2 {c : Nat} (hc : isChap c) {N : hn} : b_Tape_next_2 S0 3 (N.1, N.2, rT c) = emv c (B_Tape_next_2 c N) := by
  unfold b_Tape_next_2 B_Tape_next_2
  try simp only [my_ite, my_hg]
  simp only [hl_n', hl_wI', hl_wL', hl_cp', em_s', em_n', em_my, em_l', em_b, em_v, emv_s', emv_n', emv_my, emv_l', emv_b, emv_v, hb_em, hv_em, my_T, my_F, ne_eq, not_false_eq_true, nz_c, S0_c, S0_lw, S0_h, isHold_36, hc, hc.d, hc.l, hc.d.l, nz_1, nz_2, nz_3, nz_4, nz_5, nz_6, nz_7, nz_8, S0_3, ib_4, q_Tape_isBlank hc, q_Tape_isDigit hc, q_Tape_isLetter hc, q_Tape_kindOfWord hc, q_Tape_takeDigits hc, q_Tape_takeLetters hc, rT_3_0, q_Tape_next_5 hc, q_Tape_next_4 hc, q_Tape_next_3 hc]
set_option maxRecDepth 100000 in
set_option maxHeartbeats 400000 in
theorem r_Tape_next_1 {c : Nat} (hc : isChap c) {k0 : Nat → hm_M → Option hm_M} {K0 : hn → Option hn} (hk0 : ∀ (N : hn), k0 3 (N.1, N.2, rT c) = emv c (K0 N)) {N : hn} : b_Tape_next_1 S0 k0 3 (N.1, N.2, rT c) = emv c (B_Tape_next_1 c K0 N) := by
  unfold b_Tape_next_1 B_Tape_next_1
  try simp only [my_ite, my_hg]
  simp only [hl_n', hl_wI', hl_wL', hl_cp', em_s', em_n', em_my, em_l', em_b, em_v, emv_s', emv_n', emv_my, emv_l', emv_b, emv_v, hb_em, hv_em, my_T, my_F, ne_eq, not_false_eq_true, nz_c, S0_c, S0_lw, S0_h, isHold_36, hc, hc.d, hc.l, hc.d.l, nz_1, nz_2, nz_3, nz_4, nz_5, nz_6, nz_7, nz_8, S0_3, ib_4, q_Tape_isBlank hc, q_Tape_isDigit hc, q_Tape_isLetter hc, q_Tape_kindOfWord hc, q_Tape_takeDigits hc, q_Tape_takeLetters hc, rT_3_0, hk0, q_Tape_next_5 hc, q_Tape_next_4 hc, q_Tape_next_3 hc, q_Tape_next_2 hc]
theorem q_Tape_next_1 {c : Nat} (hc : isChap c) : ∀ (n : Nat) (N : hn), f_Tape_next_1 S0 n 3 (N.1, N.2, rT c) = emv c (F_Tape_next_1 c n N) := by
  intro n
  induction n with
  | zero => intros; rfl
  | succ n ih => intro  N ; exact r_Tape_next_1 hc  ih
set_option maxRecDepth 100000 in
set_option maxHeartbeats 400000 in
theorem q_Tape_next {c : Nat} (hc : isChap c) {N : hn} : f_Tape_next S0 3 (N.1, N.2, rT c) = emv c (F_Tape_next c N) := by
  unfold f_Tape_next F_Tape_next
  try simp only [my_ite, my_hg]
  simp only [hl_n', hl_wI', hl_wL', hl_cp', em_s', em_n', em_my, em_l', em_b, em_v, emv_s', emv_n', emv_my, emv_l', emv_b, emv_v, hb_em, hv_em, my_T, my_F, ne_eq, not_false_eq_true, nz_c, S0_c, S0_lw, S0_h, isHold_36, hc, hc.d, hc.l, hc.d.l, nz_1, nz_2, nz_3, nz_4, nz_5, nz_6, nz_7, nz_8, S0_3, ib_4, q_Tape_isBlank hc, q_Tape_isDigit hc, q_Tape_isLetter hc, q_Tape_kindOfWord hc, q_Tape_takeDigits hc, q_Tape_takeLetters hc, rT_3_0, q_Tape_next_1 hc, q_Tape_next_2 hc, q_Tape_next_3 hc, q_Tape_next_4 hc, q_Tape_next_5 hc]
set_option maxRecDepth 100000 in
set_option maxHeartbeats 400000 in
theorem q_Tape_rewind {c : Nat} (hc : isChap c) {N : hn} : f_Tape_rewind S0 3 (N.1, N.2, rT c) = emv c (F_Tape_rewind c N) := by
  unfold f_Tape_rewind F_Tape_rewind
  try simp only [my_ite, my_hg]
  simp only [hl_n', hl_wI', hl_wL', hl_cp', em_s', em_n', em_my, em_l', em_b, em_v, emv_s', emv_n', emv_my, emv_l', emv_b, emv_v, hb_em, hv_em, my_T, my_F, ne_eq, not_false_eq_true, nz_c, S0_c, S0_lw, S0_h, isHold_36, hc, hc.d, hc.l, hc.d.l, nz_1, nz_2, nz_3, nz_4, nz_5, nz_6, nz_7, nz_8, S0_3, q_Tape_next hc]
set_option maxRecDepth 100000 in
set_option maxHeartbeats 400000 in
theorem q_Reader_takeOnce {c : Nat} (hc : isChap c) {N : hn} : f_Reader_takeOnce S0 2 (N.1, N.2, rT c) = em c (F_Reader_takeOnce c N) := by
  unfold f_Reader_takeOnce F_Reader_takeOnce
  try simp only [my_ite, my_hg]
  simp only [hl_n', hl_wI', hl_wL', hl_cp', em_s', em_n', em_my, em_l', em_b, em_v, emv_s', emv_n', emv_my, emv_l', emv_b, emv_v, hb_em, hv_em, my_T, my_F, ne_eq, not_false_eq_true, nz_c, S0_c, S0_lw, S0_h, isHold_36, hc, hc.d, hc.l, hc.d.l, nz_1, nz_2, nz_3, nz_4, nz_5, nz_6, nz_7, nz_8, S0_2, S0_3, q_Tape_next hc, rT_2_0]
set_option maxRecDepth 100000 in
set_option maxHeartbeats 400000 in
theorem q_Reader_takeNumber {c : Nat} (hc : isChap c) {v1 : Int32} {v2 : Int32} {N : hn} : f_Reader_takeNumber S0 2 v1 v2 (N.1, N.2, rT c) = em c (F_Reader_takeNumber c v1 v2 N) := by
  unfold f_Reader_takeNumber F_Reader_takeNumber
  try simp only [my_ite, my_hg]
  simp only [hl_n', hl_wI', hl_wL', hl_cp', em_s', em_n', em_my, em_l', em_b, em_v, emv_s', emv_n', emv_my, emv_l', emv_b, emv_v, hb_em, hv_em, my_T, my_F, ne_eq, not_false_eq_true, nz_c, S0_c, S0_lw, S0_h, isHold_36, hc, hc.d, hc.l, hc.d.l, nz_1, nz_2, nz_3, nz_4, nz_5, nz_6, nz_7, nz_8, S0_2, S0_3, q_Tape_next hc, rT_2_0]
set_option maxRecDepth 100000 in
set_option maxHeartbeats 400000 in
theorem q_Reader_take {c : Nat} (hc : isChap c) {v1 : Int32} {N : hn} : f_Reader_take S0 2 v1 (N.1, N.2, rT c) = em c (F_Reader_take c v1 N) := by
  unfold f_Reader_take F_Reader_take
  try simp only [my_ite, my_hg]
  simp only [hl_n', hl_wI', hl_wL', hl_cp', em_s', em_n', em_my, em_l', em_b, em_v, emv_s', emv_n', emv_my, emv_l', emv_b, emv_v, hb_em, hv_em, my_T, my_F, ne_eq, not_false_eq_true, nz_c, S0_c, S0_lw, S0_h, isHold_36, hc, hc.d, hc.l, hc.d.l, nz_1, nz_2, nz_3, nz_4, nz_5, nz_6, nz_7, nz_8, S0_2, S0_3, q_Tape_next hc, rT_2_0]
set_option maxRecDepth 100000 in
set_option maxHeartbeats 400000 in
theorem q_Reader_readFloor_2 {c : Nat} (hc : isChap c) {v1 : Int32} {N : hn} : b_Reader_readFloor_2 S0 2 v1 (N.1, N.2, rT c) = em c (B_Reader_readFloor_2 c v1 N) := by
  unfold b_Reader_readFloor_2 B_Reader_readFloor_2
  try simp only [my_ite, my_hg]
  simp only [hl_n', hl_wI', hl_wL', hl_cp', em_s', em_n', em_my, em_l', em_b, em_v, emv_s', emv_n', emv_my, emv_l', emv_b, emv_v, hb_em, hv_em, my_T, my_F, ne_eq, not_false_eq_true, nz_c, S0_c, S0_lw, S0_h, isHold_36, hc, hc.d, hc.l, hc.d.l, nz_1, nz_2, nz_3, nz_4, nz_5, nz_6, nz_7, nz_8, S0_2, q_Reader_take hc, q_Reader_takeNumber hc, q_Reader_takeOnce hc, rT_2_1]
set_option maxRecDepth 100000 in
set_option maxHeartbeats 400000 in
theorem q_Reader_readFloor_1 {c : Nat} (hc : isChap c) {v1 : Int32} {N : hn} : b_Reader_readFloor_1 S0 2 v1 (N.1, N.2, rT c) = em c (B_Reader_readFloor_1 c v1 N) := by
  unfold b_Reader_readFloor_1 B_Reader_readFloor_1
  try simp only [my_ite, my_hg]
  simp only [hl_n', hl_wI', hl_wL', hl_cp', em_s', em_n', em_my, em_l', em_b, em_v, emv_s', emv_n', emv_my, emv_l', emv_b, emv_v, hb_em, hv_em, my_T, my_F, ne_eq, not_false_eq_true, nz_c, S0_c, S0_lw, S0_h, isHold_36, hc, hc.d, hc.l, hc.d.l, nz_1, nz_2, nz_3, nz_4, nz_5, nz_6, nz_7, nz_8, S0_2, q_Reader_take hc, q_Reader_takeNumber hc, q_Reader_takeOnce hc, rT_2_1, q_Reader_readFloor_2 hc]
set_option maxRecDepth 100000 in
set_option maxHeartbeats 400000 in
theorem q_Reader_readFloor {c : Nat} (hc : isChap c) {N : hn} : f_Reader_readFloor S0 2 (N.1, N.2, rT c) = em c (F_Reader_readFloor c N) := by
  unfold f_Reader_readFloor F_Reader_readFloor
  try simp only [my_ite, my_hg]
  simp only [hl_n', hl_wI', hl_wL', hl_cp', em_s', em_n', em_my, em_l', em_b, em_v, emv_s', emv_n', emv_my, emv_l', emv_b, emv_v, hb_em, hv_em, my_T, my_F, ne_eq, not_false_eq_true, nz_c, S0_c, S0_lw, S0_h, isHold_36, hc, hc.d, hc.l, hc.d.l, nz_1, nz_2, nz_3, nz_4, nz_5, nz_6, nz_7, nz_8, S0_2, q_Reader_take hc, q_Reader_takeNumber hc, q_Reader_takeOnce hc, rT_2_1, q_Reader_readFloor_1 hc, q_Reader_readFloor_2 hc]
set_option maxRecDepth 100000 in
set_option maxHeartbeats 400000 in
theorem q_Tape_isName {c : Nat} (hc : isChap c) {N : hn} : f_Tape_isName S0 3 (N.1, N.2, rT c) = em c (F_Tape_isName c N) := by
  unfold f_Tape_isName F_Tape_isName
  try simp only [my_ite, my_hg]
  simp only [hl_n', hl_wI', hl_wL', hl_cp', em_s', em_n', em_my, em_l', em_b, em_v, emv_s', emv_n', emv_my, emv_l', emv_b, emv_v, hb_em, hv_em, my_T, my_F, ne_eq, not_false_eq_true, nz_c, S0_c, S0_lw, S0_h, isHold_36, hc, hc.d, hc.l, hc.d.l, nz_1, nz_2, nz_3, nz_4, nz_5, nz_6, nz_7, nz_8, S0_3]
set_option maxRecDepth 100000 in
set_option maxHeartbeats 400000 in
theorem q_Reader_takeNewName {c : Nat} (hc : isChap c) {v1 : Int32} {N : hn} : f_Reader_takeNewName S0 2 v1 (N.1, N.2, rT c) = em c (F_Reader_takeNewName c v1 N) := by
  unfold f_Reader_takeNewName F_Reader_takeNewName
  try simp only [my_ite, my_hg]
  simp only [hl_n', hl_wI', hl_wL', hl_cp', em_s', em_n', em_my, em_l', em_b, em_v, emv_s', emv_n', emv_my, emv_l', emv_b, emv_v, hb_em, hv_em, my_T, my_F, ne_eq, not_false_eq_true, nz_c, S0_c, S0_lw, S0_h, isHold_36, hc, hc.d, hc.l, hc.d.l, nz_1, nz_2, nz_3, nz_4, nz_5, nz_6, nz_7, nz_8, S0_2, S0_3, ib_c5, q_Chapel_guildNamed hc, q_Tape_isName hc, q_Tape_next hc, rT_2_0, rT_2_1, rT_c5]
set_option maxRecDepth 100000 in
set_option maxHeartbeats 400000 in
theorem q_Reader_readGuild_5 {c : Nat} (hc : isChap c) {v2 : Int32} {N : hn} : b_Reader_readGuild_5 S0 2 v2 (N.1, N.2, rT c) = em c (B_Reader_readGuild_5 c v2 N) := by
  unfold b_Reader_readGuild_5 B_Reader_readGuild_5
  try simp only [my_ite, my_hg]
  simp only [hl_n', hl_wI', hl_wL', hl_cp', em_s', em_n', em_my, em_l', em_b, em_v, emv_s', emv_n', emv_my, emv_l', emv_b, emv_v, hb_em, hv_em, my_T, my_F, ne_eq, not_false_eq_true, nz_c, S0_c, S0_lw, S0_h, isHold_36, hc, hc.d, hc.l, hc.d.l, nz_1, nz_2, nz_3, nz_4, nz_5, nz_6, nz_7, nz_8, S0_2, S0_3, ib_c6, ib_c7, q_Reader_take hc, q_Reader_takeNewName hc, q_Reader_takeNumber hc, q_Tape_next hc, rT_2_0, rT_2_1, rT_c6, rT_c7]
set_option maxRecDepth 100000 in
set_option maxHeartbeats 400000 in
theorem q_Reader_readGuild_4 {c : Nat} (hc : isChap c) {v1 : Int32} {v2 : Int32} {N : hn} : b_Reader_readGuild_4 S0 2 v1 v2 (N.1, N.2, rT c) = em c (B_Reader_readGuild_4 c v1 v2 N) := by
  unfold b_Reader_readGuild_4 B_Reader_readGuild_4
  try simp only [my_ite, my_hg]
  simp only [hl_n', hl_wI', hl_wL', hl_cp', em_s', em_n', em_my, em_l', em_b, em_v, emv_s', emv_n', emv_my, emv_l', emv_b, emv_v, hb_em, hv_em, my_T, my_F, ne_eq, not_false_eq_true, nz_c, S0_c, S0_lw, S0_h, isHold_36, hc, hc.d, hc.l, hc.d.l, nz_1, nz_2, nz_3, nz_4, nz_5, nz_6, nz_7, nz_8, S0_2, S0_3, ib_c6, ib_c7, q_Reader_take hc, q_Reader_takeNewName hc, q_Reader_takeNumber hc, q_Tape_next hc, rT_2_0, rT_2_1, rT_c6, rT_c7, q_Reader_readGuild_5 hc]
set_option maxRecDepth 100000 in
set_option maxHeartbeats 400000 in
theorem q_Reader_readGuild_3 {c : Nat} (hc : isChap c) {v1 : Int32} {v2 : Int32} {N : hn} : b_Reader_readGuild_3 S0 2 v1 v2 (N.1, N.2, rT c) = em c (B_Reader_readGuild_3 c v1 v2 N) := by
  unfold b_Reader_readGuild_3 B_Reader_readGuild_3
  try simp only [my_ite, my_hg]
  simp only [hl_n', hl_wI', hl_wL', hl_cp', em_s', em_n', em_my, em_l', em_b, em_v, emv_s', emv_n', emv_my, emv_l', emv_b, emv_v, hb_em, hv_em, my_T, my_F, ne_eq, not_false_eq_true, nz_c, S0_c, S0_lw, S0_h, isHold_36, hc, hc.d, hc.l, hc.d.l, nz_1, nz_2, nz_3, nz_4, nz_5, nz_6, nz_7, nz_8, S0_2, S0_3, ib_c6, ib_c7, q_Reader_take hc, q_Reader_takeNewName hc, q_Reader_takeNumber hc, q_Tape_next hc, rT_2_0, rT_2_1, rT_c6, rT_c7, q_Reader_readGuild_5 hc, q_Reader_readGuild_4 hc]
set_option maxRecDepth 100000 in
set_option maxHeartbeats 400000 in
theorem q_Reader_readGuild_2 {c : Nat} (hc : isChap c) {v1 : Int32} {v2 : Int32} {N : hn} : b_Reader_readGuild_2 S0 2 v1 v2 (N.1, N.2, rT c) = em c (B_Reader_readGuild_2 c v1 v2 N) := by
  unfold b_Reader_readGuild_2 B_Reader_readGuild_2
  try simp only [my_ite, my_hg]
  simp only [hl_n', hl_wI', hl_wL', hl_cp', em_s', em_n', em_my, em_l', em_b, em_v, emv_s', emv_n', emv_my, emv_l', emv_b, emv_v, hb_em, hv_em, my_T, my_F, ne_eq, not_false_eq_true, nz_c, S0_c, S0_lw, S0_h, isHold_36, hc, hc.d, hc.l, hc.d.l, nz_1, nz_2, nz_3, nz_4, nz_5, nz_6, nz_7, nz_8, S0_2, S0_3, ib_c6, ib_c7, q_Reader_take hc, q_Reader_takeNewName hc, q_Reader_takeNumber hc, q_Tape_next hc, rT_2_0, rT_2_1, rT_c6, rT_c7, q_Reader_readGuild_5 hc, q_Reader_readGuild_4 hc, q_Reader_readGuild_3 hc]
set_option maxRecDepth 100000 in
set_option maxHeartbeats 400000 in
theorem q_Reader_readGuild_1 {c : Nat} (hc : isChap c) {v1 : Int32} {v2 : Int32} {N : hn} : b_Reader_readGuild_1 S0 2 v1 v2 (N.1, N.2, rT c) = em c (B_Reader_readGuild_1 c v1 v2 N) := by
  unfold b_Reader_readGuild_1 B_Reader_readGuild_1
  try simp only [my_ite, my_hg]
  simp only [hl_n', hl_wI', hl_wL', hl_cp', em_s', em_n', em_my, em_l', em_b, em_v, emv_s', emv_n', emv_my, emv_l', emv_b, emv_v, hb_em, hv_em, my_T, my_F, ne_eq, not_false_eq_true, nz_c, S0_c, S0_lw, S0_h, isHold_36, hc, hc.d, hc.l, hc.d.l, nz_1, nz_2, nz_3, nz_4, nz_5, nz_6, nz_7, nz_8, S0_2, S0_3, ib_c6, ib_c7, q_Reader_take hc, q_Reader_takeNewName hc, q_Reader_takeNumber hc, q_Tape_next hc, rT_2_0, rT_2_1, rT_c6, rT_c7, q_Reader_readGuild_5 hc, q_Reader_readGuild_4 hc, q_Reader_readGuild_3 hc, q_Reader_readGuild_2 hc]
set_option maxRecDepth 100000 in
set_option maxHeartbeats 400000 in
theorem q_Reader_readGuild {c : Nat} (hc : isChap c) {N : hn} : f_Reader_readGuild S0 2 (N.1, N.2, rT c) = em c (F_Reader_readGuild c N) := by
  unfold f_Reader_readGuild F_Reader_readGuild
  try simp only [my_ite, my_hg]
  simp only [hl_n', hl_wI', hl_wL', hl_cp', em_s', em_n', em_my, em_l', em_b, em_v, emv_s', emv_n', emv_my, emv_l', emv_b, emv_v, hb_em, hv_em, my_T, my_F, ne_eq, not_false_eq_true, nz_c, S0_c, S0_lw, S0_h, isHold_36, hc, hc.d, hc.l, hc.d.l, nz_1, nz_2, nz_3, nz_4, nz_5, nz_6, nz_7, nz_8, S0_2, S0_3, ib_c6, ib_c7, q_Reader_take hc, q_Reader_takeNewName hc, q_Reader_takeNumber hc, q_Tape_next hc, rT_2_0, rT_2_1, rT_c6, rT_c7, q_Reader_readGuild_1 hc, q_Reader_readGuild_2 hc, q_Reader_readGuild_3 hc, q_Reader_readGuild_4 hc, q_Reader_readGuild_5 hc]
set_option maxRecDepth 100000 in
set_option maxHeartbeats 400000 in
theorem q_Reader_isRowOfPane {c : Nat} (hc : isChap c) {v1 : Int32} {N : hn} : f_Reader_isRowOfPane S0 2 v1 (N.1, N.2, rT c) = em c (F_Reader_isRowOfPane c v1 N) := by
  unfold f_Reader_isRowOfPane F_Reader_isRowOfPane
  try simp only [my_ite, my_hg]
  simp only [hl_n', hl_wI', hl_wL', hl_cp', em_s', em_n', em_my, em_l', em_b, em_v, emv_s', emv_n', emv_my, emv_l', emv_b, emv_v, hb_em, hv_em, my_T, my_F, ne_eq, not_false_eq_true, nz_c, S0_c, S0_lw, S0_h, isHold_36, hc, hc.d, hc.l, hc.d.l, nz_1, nz_2, nz_3, nz_4, nz_5, nz_6, nz_7, nz_8, S0_2, S0_3, q_Chapel_hasPaneAt hc, rT_2_0, rT_2_1]
set_option maxRecDepth 100000 in
set_option maxHeartbeats 400000 in
theorem q_Reader_takeGiver {c : Nat} (hc : isChap c) {v1 : Int32} {N : hn} : f_Reader_takeGiver S0 2 v1 (N.1, N.2, rT c) = em c (F_Reader_takeGiver c v1 N) := by
  unfold f_Reader_takeGiver F_Reader_takeGiver
  try simp only [my_ite, my_hg]
  simp only [hl_n', hl_wI', hl_wL', hl_cp', em_s', em_n', em_my, em_l', em_b, em_v, emv_s', emv_n', emv_my, emv_l', emv_b, emv_v, hb_em, hv_em, my_T, my_F, ne_eq, not_false_eq_true, nz_c, S0_c, S0_lw, S0_h, isHold_36, hc, hc.d, hc.l, hc.d.l, nz_1, nz_2, nz_3, nz_4, nz_5, nz_6, nz_7, nz_8, S0_2, S0_3, ib_c10, q_Chapel_guildNamed hc, q_Tape_isName hc, q_Tape_next hc, rT_2_0, rT_2_1, rT_c10]
set_option maxRecDepth 100000 in
set_option maxHeartbeats 400000 in
theorem q_Reader_readPane_7 {c : Nat} (hc : isChap c) {v2 : Int32} {N : hn} : b_Reader_readPane_7 S0 2 v2 (N.1, N.2, rT c) = em c (B_Reader_readPane_7 c v2 N) := by
  unfold b_Reader_readPane_7 B_Reader_readPane_7
  try simp only [my_ite, my_hg]
  simp only [hl_n', hl_wI', hl_wL', hl_cp', em_s', em_n', em_my, em_l', em_b, em_v, emv_s', emv_n', emv_my, emv_l', emv_b, emv_v, hb_em, hv_em, my_T, my_F, ne_eq, not_false_eq_true, nz_c, S0_c, S0_lw, S0_h, isHold_36, hc, hc.d, hc.l, hc.d.l, nz_1, nz_2, nz_3, nz_4, nz_5, nz_6, nz_7, nz_8, S0_2, S0_3, ib_c11, ib_c8, ib_c9, q_Reader_isRowOfPane hc, q_Reader_take hc, q_Reader_takeGiver hc, q_Reader_takeNumber hc, q_Tape_next hc, rT_2_0, rT_2_1, rT_c11, rT_c8, rT_c9]
set_option maxRecDepth 100000 in
set_option maxHeartbeats 400000 in
theorem q_Reader_readPane_6 {c : Nat} (hc : isChap c) {v1 : Int32} {v2 : Int32} {N : hn} : b_Reader_readPane_6 S0 2 v1 v2 (N.1, N.2, rT c) = em c (B_Reader_readPane_6 c v1 v2 N) := by
  unfold b_Reader_readPane_6 B_Reader_readPane_6
  try simp only [my_ite, my_hg]
  simp only [hl_n', hl_wI', hl_wL', hl_cp', em_s', em_n', em_my, em_l', em_b, em_v, emv_s', emv_n', emv_my, emv_l', emv_b, emv_v, hb_em, hv_em, my_T, my_F, ne_eq, not_false_eq_true, nz_c, S0_c, S0_lw, S0_h, isHold_36, hc, hc.d, hc.l, hc.d.l, nz_1, nz_2, nz_3, nz_4, nz_5, nz_6, nz_7, nz_8, S0_2, S0_3, ib_c11, ib_c8, ib_c9, q_Reader_isRowOfPane hc, q_Reader_take hc, q_Reader_takeGiver hc, q_Reader_takeNumber hc, q_Tape_next hc, rT_2_0, rT_2_1, rT_c11, rT_c8, rT_c9, q_Reader_readPane_7 hc]
set_option maxRecDepth 100000 in
set_option maxHeartbeats 400000 in
theorem q_Reader_readPane_5 {c : Nat} (hc : isChap c) {v1 : Int32} {v2 : Int32} {N : hn} : b_Reader_readPane_5 S0 2 v1 v2 (N.1, N.2, rT c) = em c (B_Reader_readPane_5 c v1 v2 N) := by
  unfold b_Reader_readPane_5 B_Reader_readPane_5
  try simp only [my_ite, my_hg]
  simp only [hl_n', hl_wI', hl_wL', hl_cp', em_s', em_n', em_my, em_l', em_b, em_v, emv_s', emv_n', emv_my, emv_l', emv_b, emv_v, hb_em, hv_em, my_T, my_F, ne_eq, not_false_eq_true, nz_c, S0_c, S0_lw, S0_h, isHold_36, hc, hc.d, hc.l, hc.d.l, nz_1, nz_2, nz_3, nz_4, nz_5, nz_6, nz_7, nz_8, S0_2, S0_3, ib_c11, ib_c8, ib_c9, q_Reader_isRowOfPane hc, q_Reader_take hc, q_Reader_takeGiver hc, q_Reader_takeNumber hc, q_Tape_next hc, rT_2_0, rT_2_1, rT_c11, rT_c8, rT_c9, q_Reader_readPane_7 hc, q_Reader_readPane_6 hc]
set_option maxRecDepth 100000 in
set_option maxHeartbeats 400000 in
theorem q_Reader_readPane_4 {c : Nat} (hc : isChap c) {v1 : Int32} {v2 : Int32} {N : hn} : b_Reader_readPane_4 S0 2 v1 v2 (N.1, N.2, rT c) = em c (B_Reader_readPane_4 c v1 v2 N) := by
  unfold b_Reader_readPane_4 B_Reader_readPane_4
  try simp only [my_ite, my_hg]
  simp only [hl_n', hl_wI', hl_wL', hl_cp', em_s', em_n', em_my, em_l', em_b, em_v, emv_s', emv_n', emv_my, emv_l', emv_b, emv_v, hb_em, hv_em, my_T, my_F, ne_eq, not_false_eq_true, nz_c, S0_c, S0_lw, S0_h, isHold_36, hc, hc.d, hc.l, hc.d.l, nz_1, nz_2, nz_3, nz_4, nz_5, nz_6, nz_7, nz_8, S0_2, S0_3, ib_c11, ib_c8, ib_c9, q_Reader_isRowOfPane hc, q_Reader_take hc, q_Reader_takeGiver hc, q_Reader_takeNumber hc, q_Tape_next hc, rT_2_0, rT_2_1, rT_c11, rT_c8, rT_c9, q_Reader_readPane_7 hc, q_Reader_readPane_6 hc, q_Reader_readPane_5 hc]
set_option maxRecDepth 100000 in
set_option maxHeartbeats 400000 in
theorem q_Reader_readPane_3 {c : Nat} (hc : isChap c) {v1 : Int32} {v2 : Int32} {N : hn} : b_Reader_readPane_3 S0 2 v1 v2 (N.1, N.2, rT c) = em c (B_Reader_readPane_3 c v1 v2 N) := by
  unfold b_Reader_readPane_3 B_Reader_readPane_3
  try simp only [my_ite, my_hg]
  simp only [hl_n', hl_wI', hl_wL', hl_cp', em_s', em_n', em_my, em_l', em_b, em_v, emv_s', emv_n', emv_my, emv_l', emv_b, emv_v, hb_em, hv_em, my_T, my_F, ne_eq, not_false_eq_true, nz_c, S0_c, S0_lw, S0_h, isHold_36, hc, hc.d, hc.l, hc.d.l, nz_1, nz_2, nz_3, nz_4, nz_5, nz_6, nz_7, nz_8, S0_2, S0_3, ib_c11, ib_c8, ib_c9, q_Reader_isRowOfPane hc, q_Reader_take hc, q_Reader_takeGiver hc, q_Reader_takeNumber hc, q_Tape_next hc, rT_2_0, rT_2_1, rT_c11, rT_c8, rT_c9, q_Reader_readPane_7 hc, q_Reader_readPane_6 hc, q_Reader_readPane_5 hc, q_Reader_readPane_4 hc]
set_option maxRecDepth 100000 in
set_option maxHeartbeats 400000 in
theorem q_Reader_readPane_2 {c : Nat} (hc : isChap c) {v1 : Int32} {v2 : Int32} {N : hn} : b_Reader_readPane_2 S0 2 v1 v2 (N.1, N.2, rT c) = em c (B_Reader_readPane_2 c v1 v2 N) := by
  unfold b_Reader_readPane_2 B_Reader_readPane_2
  try simp only [my_ite, my_hg]
  simp only [hl_n', hl_wI', hl_wL', hl_cp', em_s', em_n', em_my, em_l', em_b, em_v, emv_s', emv_n', emv_my, emv_l', emv_b, emv_v, hb_em, hv_em, my_T, my_F, ne_eq, not_false_eq_true, nz_c, S0_c, S0_lw, S0_h, isHold_36, hc, hc.d, hc.l, hc.d.l, nz_1, nz_2, nz_3, nz_4, nz_5, nz_6, nz_7, nz_8, S0_2, S0_3, ib_c11, ib_c8, ib_c9, q_Reader_isRowOfPane hc, q_Reader_take hc, q_Reader_takeGiver hc, q_Reader_takeNumber hc, q_Tape_next hc, rT_2_0, rT_2_1, rT_c11, rT_c8, rT_c9, q_Reader_readPane_7 hc, q_Reader_readPane_6 hc, q_Reader_readPane_5 hc, q_Reader_readPane_4 hc, q_Reader_readPane_3 hc]
set_option maxRecDepth 100000 in
set_option maxHeartbeats 400000 in
theorem q_Reader_readPane_1 {c : Nat} (hc : isChap c) {v1 : Int32} {s0 : Int32} {N : hn} : b_Reader_readPane_1 S0 2 v1 s0 (N.1, N.2, rT c) = em c (B_Reader_readPane_1 c v1 s0 N) := by
  unfold b_Reader_readPane_1 B_Reader_readPane_1
  try simp only [my_ite, my_hg]
  simp only [hl_n', hl_wI', hl_wL', hl_cp', em_s', em_n', em_my, em_l', em_b, em_v, emv_s', emv_n', emv_my, emv_l', emv_b, emv_v, hb_em, hv_em, my_T, my_F, ne_eq, not_false_eq_true, nz_c, S0_c, S0_lw, S0_h, isHold_36, hc, hc.d, hc.l, hc.d.l, nz_1, nz_2, nz_3, nz_4, nz_5, nz_6, nz_7, nz_8, S0_2, S0_3, ib_c11, ib_c8, ib_c9, q_Reader_isRowOfPane hc, q_Reader_take hc, q_Reader_takeGiver hc, q_Reader_takeNumber hc, q_Tape_next hc, rT_2_0, rT_2_1, rT_c11, rT_c8, rT_c9, q_Reader_readPane_7 hc, q_Reader_readPane_6 hc, q_Reader_readPane_5 hc, q_Reader_readPane_4 hc, q_Reader_readPane_3 hc, q_Reader_readPane_2 hc]
set_option maxRecDepth 100000 in
set_option maxHeartbeats 400000 in
theorem q_Reader_readPane {c : Nat} (hc : isChap c) {N : hn} : f_Reader_readPane S0 2 (N.1, N.2, rT c) = em c (F_Reader_readPane c N) := by
  unfold f_Reader_readPane F_Reader_readPane
  try simp only [my_ite, my_hg]
  simp only [hl_n', hl_wI', hl_wL', hl_cp', em_s', em_n', em_my, em_l', em_b, em_v, emv_s', emv_n', emv_my, emv_l', emv_b, emv_v, hb_em, hv_em, my_T, my_F, ne_eq, not_false_eq_true, nz_c, S0_c, S0_lw, S0_h, isHold_36, hc, hc.d, hc.l, hc.d.l, nz_1, nz_2, nz_3, nz_4, nz_5, nz_6, nz_7, nz_8, S0_2, S0_3, ib_c11, ib_c8, ib_c9, q_Reader_isRowOfPane hc, q_Reader_take hc, q_Reader_takeGiver hc, q_Reader_takeNumber hc, q_Tape_next hc, rT_2_0, rT_2_1, rT_c11, rT_c8, rT_c9, q_Reader_readPane_1 hc, q_Reader_readPane_2 hc, q_Reader_readPane_3 hc, q_Reader_readPane_4 hc, q_Reader_readPane_5 hc, q_Reader_readPane_6 hc, q_Reader_readPane_7 hc]
set_option maxRecDepth 100000 in
set_option maxHeartbeats 400000 in
theorem q_Laws_open {c : Nat} (hc : isChap c) {v0 : Nat} {v1 : Int32} (hv0 : isLaws v0) {N : hn} : f_Laws_open S0 v0 v1 (N.1, N.2, rT c) = emv c (F_Laws_open c v0 v1 N) := by
  unfold f_Laws_open F_Laws_open
  try simp only [my_ite, my_hg]
  simp only [hl_n', hl_wI', hl_wL', hl_cp', em_s', em_n', em_my, em_l', em_b, em_v, emv_s', emv_n', emv_my, emv_l', emv_b, emv_v, hb_em, hv_em, my_T, my_F, ne_eq, not_false_eq_true, nz_c, S0_c, S0_lw, S0_h, isHold_36, hc, hc.d, hc.l, hc.d.l, nz_1, nz_2, nz_3, nz_4, nz_5, nz_6, nz_7, nz_8, hv0, ib_w2, q_Laws_isLaw hc, rT_w2]
set_option maxRecDepth 100000 in
set_option maxHeartbeats 400000 in
theorem q_Laws_add {c : Nat} (hc : isChap c) {v0 : Nat} {v1 : Int32} (hv0 : isLaws v0) {N : hn} : f_Laws_add S0 v0 v1 (N.1, N.2, rT c) = emv c (F_Laws_add c v0 v1 N) := by
  unfold f_Laws_add F_Laws_add
  try simp only [my_ite, my_hg]
  simp only [hl_n', hl_wI', hl_wL', hl_cp', em_s', em_n', em_my, em_l', em_b, em_v, emv_s', emv_n', emv_my, emv_l', emv_b, emv_v, hb_em, hv_em, my_T, my_F, ne_eq, not_false_eq_true, nz_c, S0_c, S0_lw, S0_h, isHold_36, hc, hc.d, hc.l, hc.d.l, nz_1, nz_2, nz_3, nz_4, nz_5, nz_6, nz_7, nz_8, hv0, ib_w0, rT_w0]
set_option maxRecDepth 100000 in
set_option maxHeartbeats 400000 in
theorem q_Laws_close {c : Nat} (hc : isChap c) {v0 : Nat} {v1 : Int32} (hv0 : isLaws v0) {N : hn} : f_Laws_close S0 v0 v1 (N.1, N.2, rT c) = emv c (F_Laws_close c v0 v1 N) := by
  unfold f_Laws_close F_Laws_close
  try simp only [my_ite, my_hg]
  simp only [hl_n', hl_wI', hl_wL', hl_cp', em_s', em_n', em_my, em_l', em_b, em_v, emv_s', emv_n', emv_my, emv_l', emv_b, emv_v, hb_em, hv_em, my_T, my_F, ne_eq, not_false_eq_true, nz_c, S0_c, S0_lw, S0_h, isHold_36, hc, hc.d, hc.l, hc.d.l, nz_1, nz_2, nz_3, nz_4, nz_5, nz_6, nz_7, nz_8, hv0, ib_w3, q_Laws_isLaw hc, rT_w3]
set_option maxRecDepth 100000 in
set_option maxHeartbeats 400000 in
theorem q_Tape_isFact {c : Nat} (hc : isChap c) {N : hn} : f_Tape_isFact S0 3 (N.1, N.2, rT c) = em c (F_Tape_isFact c N) := by
  unfold f_Tape_isFact F_Tape_isFact
  try simp only [my_ite, my_hg]
  simp only [hl_n', hl_wI', hl_wL', hl_cp', em_s', em_n', em_my, em_l', em_b, em_v, emv_s', emv_n', emv_my, emv_l', emv_b, emv_v, hb_em, hv_em, my_T, my_F, ne_eq, not_false_eq_true, nz_c, S0_c, S0_lw, S0_h, isHold_36, hc, hc.d, hc.l, hc.d.l, nz_1, nz_2, nz_3, nz_4, nz_5, nz_6, nz_7, nz_8, S0_3]
set_option maxRecDepth 100000 in
set_option maxHeartbeats 400000 in
theorem q_Reader_isFactOf_1 {c : Nat} (hc : isChap c) {v0 : Int32} {N : hn} : b_Reader_isFactOf_1 S0 v0 (N.1, N.2, rT c) = em c (B_Reader_isFactOf_1 c v0 N) := by
  unfold b_Reader_isFactOf_1 B_Reader_isFactOf_1
  try simp only [my_ite, my_hg]
  simp only [hl_n', hl_wI', hl_wL', hl_cp', em_s', em_n', em_my, em_l', em_b, em_v, emv_s', emv_n', emv_my, emv_l', emv_b, emv_v, hb_em, hv_em, my_T, my_F, ne_eq, not_false_eq_true, nz_c, S0_c, S0_lw, S0_h, isHold_36, hc, hc.d, hc.l, hc.d.l, nz_1, nz_2, nz_3, nz_4, nz_5, nz_6, nz_7, nz_8, S0_2]
set_option maxRecDepth 100000 in
set_option maxHeartbeats 400000 in
theorem q_Reader_isFactOf {c : Nat} (hc : isChap c) {v0 : Int32} {v1 : Int32} {N : hn} : f_Reader_isFactOf S0 v0 v1 (N.1, N.2, rT c) = em c (F_Reader_isFactOf c v0 v1 N) := by
  unfold f_Reader_isFactOf F_Reader_isFactOf
  try simp only [my_ite, my_hg]
  simp only [hl_n', hl_wI', hl_wL', hl_cp', em_s', em_n', em_my, em_l', em_b, em_v, emv_s', emv_n', emv_my, emv_l', emv_b, emv_v, hb_em, hv_em, my_T, my_F, ne_eq, not_false_eq_true, nz_c, S0_c, S0_lw, S0_h, isHold_36, hc, hc.d, hc.l, hc.d.l, nz_1, nz_2, nz_3, nz_4, nz_5, nz_6, nz_7, nz_8, S0_2, q_Reader_isFactOf_1 hc]
set_option maxRecDepth 100000 in
set_option maxHeartbeats 400000 in
theorem q_Reader_startsPart {c : Nat} (hc : isChap c) {N : hn} : f_Reader_startsPart S0 2 (N.1, N.2, rT c) = em c (F_Reader_startsPart c N) := by
  unfold f_Reader_startsPart F_Reader_startsPart
  try simp only [my_ite, my_hg]
  simp only [hl_n', hl_wI', hl_wL', hl_cp', em_s', em_n', em_my, em_l', em_b, em_v, emv_s', emv_n', emv_my, emv_l', emv_b, emv_v, hb_em, hv_em, my_T, my_F, ne_eq, not_false_eq_true, nz_c, S0_c, S0_lw, S0_h, isHold_36, hc, hc.d, hc.l, hc.d.l, nz_1, nz_2, nz_3, nz_4, nz_5, nz_6, nz_7, nz_8, S0_2, S0_3, q_Reader_isFactOf hc, q_Tape_isFact hc, rT_2_0]
