/-! by program: the resolved layer is right -/
theorem q_Ps_when_1 {c : Nat} (hc : isChap c) : ∀ (n : Nat) (v1 : Int32) (v2 : Int32) (v3 : Int32) (v4 : Int32) (v5 : Int32) (N : hn), f_Ps_when_1 S0 n 1 v1 v2 v3 v4 v5 (N.1, N.2, rT c) = em c (F_Ps_when_1 c n v1 v2 v3 v4 v5 N) := by
  intro n
  induction n with
  | zero => intros; rfl
  | succ n ih => intro v1 v2 v3 v4 v5 N ; exact r_Ps_when_1 hc  ih 
set_option maxRecDepth 100000 in
set_option maxHeartbeats 4000000 in
theorem q_Ps_when {c : Nat} (hc : isChap c) {v1 : Int32} {N : hn} : f_Ps_when S0 1 v1 (N.1, N.2, rT c) = em c (F_Ps_when c v1 N) := by
  unfold f_Ps_when F_Ps_when
  (simp only [hl_n, hl_wI, hl_wL, hl_cp, em_s, em_n, em_g, em_i, em_l, em_b, em_v, emv_s, emv_n, emv_g, emv_i, emv_l, emv_b, emv_v, hb_em, hv_em, hg_T, ne_eq, not_false_eq_true, nz_c, S0_c, S0_lw, S0_h, isHold_36, hc, hc.d, hc.l, hc.d.l, nz_1, nz_2, nz_3, nz_4, nz_5, nz_6, nz_7, nz_8, S0_1, q_Ps_candlesAt hc, q_Ps_when_1 hc]) <;> rfl
set_option maxRecDepth 100000 in
set_option maxHeartbeats 4000000 in
theorem q_Ps_worth {c : Nat} (hc : isChap c) {v1 : Int32} {v2 : Int32} {N : hn} : f_Ps_worth S0 1 v1 v2 (N.1, N.2, rT c) = em c (F_Ps_worth c v1 v2 N) := by
  unfold f_Ps_worth F_Ps_worth
  (simp only [hl_n, hl_wI, hl_wL, hl_cp, em_s, em_n, em_g, em_i, em_l, em_b, em_v, emv_s, emv_n, emv_g, emv_i, emv_l, emv_b, emv_v, hb_em, hv_em, hg_T, ne_eq, not_false_eq_true, nz_c, S0_c, S0_lw, S0_h, isHold_36, hc, hc.d, hc.l, hc.d.l, nz_1, nz_2, nz_3, nz_4, nz_5, nz_6, nz_7, nz_8, S0_1, S0_19, S0_43, q_Ps_isGuild hc, q_Ps_isPane hc, q_Ps_yearNow hc, q_Rents_worthTo hc, rT_19_0, rT_1_1, rT_1_4]) <;> rfl
set_option maxRecDepth 100000 in
set_option maxHeartbeats 4000000 in
theorem q_Ps_yields {c : Nat} (hc : isChap c) {v1 : Int32} {N : hn} : f_Ps_yields S0 1 v1 (N.1, N.2, rT c) = em c (F_Ps_yields c v1 N) := by
  unfold f_Ps_yields F_Ps_yields
  (simp only [hl_n, hl_wI, hl_wL, hl_cp, em_s, em_n, em_g, em_i, em_l, em_b, em_v, emv_s, emv_n, emv_g, emv_i, emv_l, emv_b, emv_v, hb_em, hv_em, hg_T, ne_eq, not_false_eq_true, nz_c, S0_c, S0_lw, S0_h, isHold_36, hc, hc.d, hc.l, hc.d.l, nz_1, nz_2, nz_3, nz_4, nz_5, nz_6, nz_7, nz_8, S0_1, S0_43, q_Ps_isPane hc, q_Ps_yearNow hc, q_Rents_given hc, rT_1_4]) <;> rfl
set_option maxRecDepth 100000 in
set_option maxHeartbeats 4000000 in
theorem q_Md_both {c : Nat} (hc : isChap c) {v0 : Int32} {v1 : Int32} {v2 : Int32} {N : hn} : f_Md_both S0 v0 v1 v2 (N.1, N.2, rT c) = em c (F_Md_both c v0 v1 v2 N) := by
  unfold f_Md_both F_Md_both
  (simp only [hl_n, hl_wI, hl_wL, hl_cp, em_s, em_n, em_g, em_i, em_l, em_b, em_v, emv_s, emv_n, emv_g, emv_i, emv_l, emv_b, emv_v, hb_em, hv_em, hg_T, ne_eq, not_false_eq_true, nz_c, S0_c, S0_lw, S0_h, isHold_36, hc, hc.d, hc.l, hc.d.l, nz_1, nz_2, nz_3, nz_4, nz_5, nz_6, nz_7, nz_8, S0_76]) <;> rfl
set_option maxRecDepth 100000 in
set_option maxHeartbeats 4000000 in
theorem q_Md_worthAt_4 {c : Nat} (hc : isChap c) {k4 : Nat → Int32 → Int32 → hm_M → Option (Int32 × hm_M)} {K4 : Int32 → Int32 → hn → Option (Int32 × hn)} (hk4 : ∀ (v2 : Int32) (v3 : Int32) (N : hn), k4 76 v2 v3 (N.1, N.2, rT c) = em c (K4 v2 v3 N)) {v2 : Int32} {v3 : Int32} {s0 : Int32} {s1 : Int32} {N : hn} : b_Md_worthAt_4 S0 k4 76 v2 v3 s0 s1 87 (N.1, N.2, rT c) = em c (B_Md_worthAt_4 c K4 v2 v3 s0 s1 N) := by
  unfold b_Md_worthAt_4 B_Md_worthAt_4
  (simp only [hl_n, hl_wI, hl_wL, hl_cp, em_s, em_n, em_g, em_i, em_l, em_b, em_v, emv_s, emv_n, emv_g, emv_i, emv_l, emv_b, emv_v, hb_em, hv_em, hg_T, ne_eq, not_false_eq_true, nz_c, S0_c, S0_lw, S0_h, isHold_36, hc, hc.d, hc.l, hc.d.l, nz_1, nz_2, nz_3, nz_4, nz_5, nz_6, nz_7, nz_8, S0_76, ib_83, ib_84, ib_86, ib_87, q_Md_both hc, rT_76_11, rT_76_12, rT_76_18, rT_76_19, hk4]) <;> rfl
set_option maxRecDepth 100000 in
set_option maxHeartbeats 4000000 in
theorem q_Md_worthAt_3 {c : Nat} (hc : isChap c) {k4 : Nat → Int32 → Int32 → hm_M → Option (Int32 × hm_M)} {K4 : Int32 → Int32 → hn → Option (Int32 × hn)} (hk4 : ∀ (v2 : Int32) (v3 : Int32) (N : hn), k4 76 v2 v3 (N.1, N.2, rT c) = em c (K4 v2 v3 N)) {v2 : Int32} {v3 : Int32} {s0 : Int32} {s1 : Int32} {N : hn} : b_Md_worthAt_3 S0 k4 76 v2 v3 s0 s1 87 (N.1, N.2, rT c) = em c (B_Md_worthAt_3 c K4 v2 v3 s0 s1 N) := by
  unfold b_Md_worthAt_3 B_Md_worthAt_3
  (simp only [hl_n, hl_wI, hl_wL, hl_cp, em_s, em_n, em_g, em_i, em_l, em_b, em_v, emv_s, emv_n, emv_g, emv_i, emv_l, emv_b, emv_v, hb_em, hv_em, hg_T, ne_eq, not_false_eq_true, nz_c, S0_c, S0_lw, S0_h, isHold_36, hc, hc.d, hc.l, hc.d.l, nz_1, nz_2, nz_3, nz_4, nz_5, nz_6, nz_7, nz_8, S0_76, ib_83, ib_84, ib_86, ib_87, q_Md_both hc, rT_76_11, rT_76_12, rT_76_18, rT_76_19, hk4, q_Md_worthAt_4 hc hk4]) <;> rfl
set_option maxRecDepth 100000 in
set_option maxHeartbeats 4000000 in
theorem q_Md_worthAt_2 {c : Nat} (hc : isChap c) {k4 : Nat → Int32 → Int32 → hm_M → Option (Int32 × hm_M)} {K4 : Int32 → Int32 → hn → Option (Int32 × hn)} (hk4 : ∀ (v2 : Int32) (v3 : Int32) (N : hn), k4 76 v2 v3 (N.1, N.2, rT c) = em c (K4 v2 v3 N)) {v2 : Int32} {v3 : Int32} {v4 : Int32} {N : hn} : b_Md_worthAt_2 S0 k4 76 v2 v3 v4 (N.1, N.2, rT c) = em c (B_Md_worthAt_2 c K4 v2 v3 v4 N) := by
  unfold b_Md_worthAt_2 B_Md_worthAt_2
  (simp only [hl_n, hl_wI, hl_wL, hl_cp, em_s, em_n, em_g, em_i, em_l, em_b, em_v, emv_s, emv_n, emv_g, emv_i, emv_l, emv_b, emv_v, hb_em, hv_em, hg_T, ne_eq, not_false_eq_true, nz_c, S0_c, S0_lw, S0_h, isHold_36, hc, hc.d, hc.l, hc.d.l, nz_1, nz_2, nz_3, nz_4, nz_5, nz_6, nz_7, nz_8, S0_76, ib_83, ib_84, ib_86, ib_87, q_Md_both hc, rT_76_11, rT_76_12, rT_76_18, rT_76_19, hk4, q_Md_worthAt_4 hc hk4, q_Md_worthAt_3 hc hk4]) <;> rfl
set_option maxRecDepth 100000 in
set_option maxHeartbeats 4000000 in
theorem r_Md_worthAt_1 {c : Nat} (hc : isChap c) {k4 : Nat → Int32 → Int32 → hm_M → Option (Int32 × hm_M)} {K4 : Int32 → Int32 → hn → Option (Int32 × hn)} (hk4 : ∀ (v2 : Int32) (v3 : Int32) (N : hn), k4 76 v2 v3 (N.1, N.2, rT c) = em c (K4 v2 v3 N)) {v2 : Int32} {v3 : Int32} {N : hn} : b_Md_worthAt_1 S0 k4 76 v2 v3 (N.1, N.2, rT c) = em c (B_Md_worthAt_1 c K4 v2 v3 N) := by
  unfold b_Md_worthAt_1 B_Md_worthAt_1
  (simp only [hl_n, hl_wI, hl_wL, hl_cp, em_s, em_n, em_g, em_i, em_l, em_b, em_v, emv_s, emv_n, emv_g, emv_i, emv_l, emv_b, emv_v, hb_em, hv_em, hg_T, ne_eq, not_false_eq_true, nz_c, S0_c, S0_lw, S0_h, isHold_36, hc, hc.d, hc.l, hc.d.l, nz_1, nz_2, nz_3, nz_4, nz_5, nz_6, nz_7, nz_8, S0_76, ib_83, ib_84, ib_86, ib_87, q_Md_both hc, rT_76_11, rT_76_12, rT_76_18, rT_76_19, hk4, q_Md_worthAt_4 hc hk4, q_Md_worthAt_3 hc hk4, q_Md_worthAt_2 hc hk4]) <;> rfl
theorem q_Md_worthAt_1 {c : Nat} (hc : isChap c) : ∀ (n : Nat) (v2 : Int32) (v3 : Int32) (N : hn), f_Md_worthAt_1 S0 n 76 v2 v3 (N.1, N.2, rT c) = em c (F_Md_worthAt_1 c n v2 v3 N) := by
  intro n
  induction n with
  | zero => intros; rfl
  | succ n ih => intro v2 v3 N ; exact r_Md_worthAt_1 hc  ih 
set_option maxRecDepth 100000 in
set_option maxHeartbeats 4000000 in
theorem q_Md_worthAt {c : Nat} (hc : isChap c) {v1 : Int32} {N : hn} : f_Md_worthAt S0 76 v1 (N.1, N.2, rT c) = em c (F_Md_worthAt c v1 N) := by
  unfold f_Md_worthAt F_Md_worthAt
  (simp only [hl_n, hl_wI, hl_wL, hl_cp, em_s, em_n, em_g, em_i, em_l, em_b, em_v, emv_s, emv_n, emv_g, emv_i, emv_l, emv_b, emv_v, hb_em, hv_em, hg_T, ne_eq, not_false_eq_true, nz_c, S0_c, S0_lw, S0_h, isHold_36, hc, hc.d, hc.l, hc.d.l, nz_1, nz_2, nz_3, nz_4, nz_5, nz_6, nz_7, nz_8, S0_76, ib_83, ib_84, ib_86, ib_87, q_Md_both hc, rT_76_11, rT_76_12, rT_76_18, rT_76_19, q_Md_worthAt_1 hc]) <;> rfl
set_option maxRecDepth 100000 in
set_option maxHeartbeats 4000000 in
theorem q_Md_isDark {c : Nat} (hc : isChap c) {v1 : Int32} {v2 : Int32} {N : hn} : f_Md_isDark S0 76 v1 v2 (N.1, N.2, rT c) = em c (F_Md_isDark c v1 v2 N) := by
  unfold f_Md_isDark F_Md_isDark
  (simp only [hl_n, hl_wI, hl_wL, hl_cp, em_s, em_n, em_g, em_i, em_l, em_b, em_v, emv_s, emv_n, emv_g, emv_i, emv_l, emv_b, emv_v, hb_em, hv_em, hg_T, ne_eq, not_false_eq_true, nz_c, S0_c, S0_lw, S0_h, isHold_36, hc, hc.d, hc.l, hc.d.l, nz_1, nz_2, nz_3, nz_4, nz_5, nz_6, nz_7, nz_8, S0_76, ib_82, ib_86, q_Md_worthAt hc, rT_76_10, rT_76_18]) <;> rfl
set_option maxRecDepth 100000 in
set_option maxHeartbeats 4000000 in
theorem q_Md_panes {c : Nat} (hc : isChap c) {N : hn} : f_Md_panes S0 76 (N.1, N.2, rT c) = em c (F_Md_panes c N) := by
  unfold f_Md_panes F_Md_panes
  (simp only [hl_n, hl_wI, hl_wL, hl_cp, em_s, em_n, em_g, em_i, em_l, em_b, em_v, emv_s, emv_n, emv_g, emv_i, emv_l, emv_b, emv_v, hb_em, hv_em, hg_T, ne_eq, not_false_eq_true, nz_c, S0_c, S0_lw, S0_h, isHold_36, hc, hc.d, hc.l, hc.d.l, nz_1, nz_2, nz_3, nz_4, nz_5, nz_6, nz_7, nz_8, S0_76, ib_82, rT_76_10]) <;> rfl
set_option maxRecDepth 100000 in
set_option maxHeartbeats 4000000 in
theorem q_Md_isBroken {c : Nat} (hc : isChap c) {v1 : Int32} {N : hn} : f_Md_isBroken S0 76 v1 (N.1, N.2, rT c) = em c (F_Md_isBroken c v1 N) := by
  unfold f_Md_isBroken F_Md_isBroken
  (simp only [hl_n, hl_wI, hl_wL, hl_cp, em_s, em_n, em_g, em_i, em_l, em_b, em_v, emv_s, emv_n, emv_g, emv_i, emv_l, emv_b, emv_v, hb_em, hv_em, hg_T, ne_eq, not_false_eq_true, nz_c, S0_c, S0_lw, S0_h, isHold_36, hc, hc.d, hc.l, hc.d.l, nz_1, nz_2, nz_3, nz_4, nz_5, nz_6, nz_7, nz_8, S0_76, ib_88, rT_76_20]) <;> rfl
set_option maxRecDepth 100000 in
set_option maxHeartbeats 4000000 in
theorem q_Md_ownerOf {c : Nat} (hc : isChap c) {v1 : Int32} {N : hn} : f_Md_ownerOf S0 76 v1 (N.1, N.2, rT c) = em c (F_Md_ownerOf c v1 N) := by
  unfold f_Md_ownerOf F_Md_ownerOf
  (simp only [hl_n, hl_wI, hl_wL, hl_cp, em_s, em_n, em_g, em_i, em_l, em_b, em_v, emv_s, emv_n, emv_g, emv_i, emv_l, emv_b, emv_v, hb_em, hv_em, hg_T, ne_eq, not_false_eq_true, nz_c, S0_c, S0_lw, S0_h, isHold_36, hc, hc.d, hc.l, hc.d.l, nz_1, nz_2, nz_3, nz_4, nz_5, nz_6, nz_7, nz_8, S0_76, ib_88, rT_76_20]) <;> rfl
set_option maxRecDepth 100000 in
set_option maxHeartbeats 4000000 in
theorem q_Md_paneOf {c : Nat} (hc : isChap c) {v1 : Int32} {v2 : Int32} {N : hn} : f_Md_paneOf S0 76 v1 v2 (N.1, N.2, rT c) = em c (F_Md_paneOf c v1 v2 N) := by
  unfold f_Md_paneOf F_Md_paneOf
  (simp only [hl_n, hl_wI, hl_wL, hl_cp, em_s, em_n, em_g, em_i, em_l, em_b, em_v, emv_s, emv_n, emv_g, emv_i, emv_l, emv_b, emv_v, hb_em, hv_em, hg_T, ne_eq, not_false_eq_true, nz_c, S0_c, S0_lw, S0_h, isHold_36, hc, hc.d, hc.l, hc.d.l, nz_1, nz_2, nz_3, nz_4, nz_5, nz_6, nz_7, nz_8, S0_76, ib_82, rT_76_10]) <;> rfl
set_option maxRecDepth 100000 in
set_option maxHeartbeats 4000000 in
theorem q_Md_isOn {c : Nat} (hc : isChap c) {v1 : Int32} {v2 : Int32} {N : hn} : f_Md_isOn S0 76 v1 v2 (N.1, N.2, rT c) = em c (F_Md_isOn c v1 v2 N) := by
  unfold f_Md_isOn F_Md_isOn
  (simp only [hl_n, hl_wI, hl_wL, hl_cp, em_s, em_n, em_g, em_i, em_l, em_b, em_v, emv_s, emv_n, emv_g, emv_i, emv_l, emv_b, emv_v, hb_em, hv_em, hg_T, ne_eq, not_false_eq_true, nz_c, S0_c, S0_lw, S0_h, isHold_36, hc, hc.d, hc.l, hc.d.l, nz_1, nz_2, nz_3, nz_4, nz_5, nz_6, nz_7, nz_8, S0_76, ib_82, rT_76_10]) <;> rfl
set_option maxRecDepth 100000 in
set_option maxHeartbeats 4000000 in
theorem q_Md_findLight_4 {c : Nat} (hc : isChap c) {k10 : Nat → Int32 → Int32 → Int32 → Int32 → hm_M → Option hm_M} {K10 : Int32 → Int32 → Int32 → Int32 → hn → Option hn} (hk10 : ∀ (v1 : Int32) (v2 : Int32) (v3 : Int32) (v4 : Int32) (N : hn), k10 76 v1 v2 v3 v4 (N.1, N.2, rT c) = emv c (K10 v1 v2 v3 v4 N)) {v1 : Int32} {v2 : Int32} {v3 : Int32} {v4 : Int32} {s0 : Int32} {s1 : Int32} {N : hn} : b_Md_findLight_4 S0 k10 76 v1 v2 v3 v4 s0 s1 90 (N.1, N.2, rT c) = emv c (B_Md_findLight_4 c K10 v1 v2 v3 v4 s0 s1 N) := by
  unfold b_Md_findLight_4 B_Md_findLight_4
  (simp only [hl_n, hl_wI, hl_wL, hl_cp, em_s, em_n, em_g, em_i, em_l, em_b, em_v, emv_s, emv_n, emv_g, emv_i, emv_l, emv_b, emv_v, hb_em, hv_em, hg_T, ne_eq, not_false_eq_true, nz_c, S0_c, S0_lw, S0_h, isHold_36, hc, hc.d, hc.l, hc.d.l, nz_1, nz_2, nz_3, nz_4, nz_5, nz_6, nz_7, nz_8, S0_76, ib_82, ib_86, ib_90, q_Md_isBroken hc, q_Md_isDark hc, q_Md_isOn hc, q_Md_ownerOf hc, q_Md_paneOf hc, q_Md_panes hc, q_Md_worthAt hc, rT_76_10, rT_76_18, rT_76_24, hk10]) <;> rfl
set_option maxRecDepth 100000 in
set_option maxHeartbeats 4000000 in
theorem q_Md_findLight_3 {c : Nat} (hc : isChap c) {k10 : Nat → Int32 → Int32 → Int32 → Int32 → hm_M → Option hm_M} {K10 : Int32 → Int32 → Int32 → Int32 → hn → Option hn} (hk10 : ∀ (v1 : Int32) (v2 : Int32) (v3 : Int32) (v4 : Int32) (N : hn), k10 76 v1 v2 v3 v4 (N.1, N.2, rT c) = emv c (K10 v1 v2 v3 v4 N)) {v1 : Int32} {v2 : Int32} {v3 : Int32} {v4 : Int32} {v5 : Int32} {s0 : Int32} {N : hn} : b_Md_findLight_3 S0 k10 76 v1 v2 v3 v4 v5 s0 (N.1, N.2, rT c) = emv c (B_Md_findLight_3 c K10 v1 v2 v3 v4 v5 s0 N) := by
  unfold b_Md_findLight_3 B_Md_findLight_3
  (simp only [hl_n, hl_wI, hl_wL, hl_cp, em_s, em_n, em_g, em_i, em_l, em_b, em_v, emv_s, emv_n, emv_g, emv_i, emv_l, emv_b, emv_v, hb_em, hv_em, hg_T, ne_eq, not_false_eq_true, nz_c, S0_c, S0_lw, S0_h, isHold_36, hc, hc.d, hc.l, hc.d.l, nz_1, nz_2, nz_3, nz_4, nz_5, nz_6, nz_7, nz_8, S0_76, ib_82, ib_86, ib_90, q_Md_isBroken hc, q_Md_isDark hc, q_Md_isOn hc, q_Md_ownerOf hc, q_Md_paneOf hc, q_Md_panes hc, q_Md_worthAt hc, rT_76_10, rT_76_18, rT_76_24, hk10, q_Md_findLight_4 hc hk10]) <;> rfl
set_option maxRecDepth 100000 in
set_option maxHeartbeats 4000000 in
theorem q_Md_findLight_2 {c : Nat} (hc : isChap c) {k10 : Nat → Int32 → Int32 → Int32 → Int32 → hm_M → Option hm_M} {K10 : Int32 → Int32 → Int32 → Int32 → hn → Option hn} (hk10 : ∀ (v1 : Int32) (v2 : Int32) (v3 : Int32) (v4 : Int32) (N : hn), k10 76 v1 v2 v3 v4 (N.1, N.2, rT c) = emv c (K10 v1 v2 v3 v4 N)) {v1 : Int32} {v2 : Int32} {v3 : Int32} {v4 : Int32} {s0 : Int32} {s1 : Int32} {N : hn} : b_Md_findLight_2 S0 k10 76 v1 v2 v3 v4 s0 s1 (N.1, N.2, rT c) = emv c (B_Md_findLight_2 c K10 v1 v2 v3 v4 s0 s1 N) := by
  unfold b_Md_findLight_2 B_Md_findLight_2
  (simp only [hl_n, hl_wI, hl_wL, hl_cp, em_s, em_n, em_g, em_i, em_l, em_b, em_v, emv_s, emv_n, emv_g, emv_i, emv_l, emv_b, emv_v, hb_em, hv_em, hg_T, ne_eq, not_false_eq_true, nz_c, S0_c, S0_lw, S0_h, isHold_36, hc, hc.d, hc.l, hc.d.l, nz_1, nz_2, nz_3, nz_4, nz_5, nz_6, nz_7, nz_8, S0_76, ib_82, ib_86, ib_90, q_Md_isBroken hc, q_Md_isDark hc, q_Md_isOn hc, q_Md_ownerOf hc, q_Md_paneOf hc, q_Md_panes hc, q_Md_worthAt hc, rT_76_10, rT_76_18, rT_76_24, hk10, q_Md_findLight_4 hc hk10, q_Md_findLight_3 hc hk10]) <;> rfl
set_option maxRecDepth 100000 in
set_option maxHeartbeats 4000000 in
theorem r_Md_findLight_1 {c : Nat} (hc : isChap c) {k10 : Nat → Int32 → Int32 → Int32 → Int32 → hm_M → Option hm_M} {K10 : Int32 → Int32 → Int32 → Int32 → hn → Option hn} (hk10 : ∀ (v1 : Int32) (v2 : Int32) (v3 : Int32) (v4 : Int32) (N : hn), k10 76 v1 v2 v3 v4 (N.1, N.2, rT c) = emv c (K10 v1 v2 v3 v4 N)) {v1 : Int32} {v2 : Int32} {v3 : Int32} {v4 : Int32} {N : hn} : b_Md_findLight_1 S0 k10 76 v1 v2 v3 v4 (N.1, N.2, rT c) = emv c (B_Md_findLight_1 c K10 v1 v2 v3 v4 N) := by
  unfold b_Md_findLight_1 B_Md_findLight_1
  (simp only [hl_n, hl_wI, hl_wL, hl_cp, em_s, em_n, em_g, em_i, em_l, em_b, em_v, emv_s, emv_n, emv_g, emv_i, emv_l, emv_b, emv_v, hb_em, hv_em, hg_T, ne_eq, not_false_eq_true, nz_c, S0_c, S0_lw, S0_h, isHold_36, hc, hc.d, hc.l, hc.d.l, nz_1, nz_2, nz_3, nz_4, nz_5, nz_6, nz_7, nz_8, S0_76, ib_82, ib_86, ib_90, q_Md_isBroken hc, q_Md_isDark hc, q_Md_isOn hc, q_Md_ownerOf hc, q_Md_paneOf hc, q_Md_panes hc, q_Md_worthAt hc, rT_76_10, rT_76_18, rT_76_24, hk10, q_Md_findLight_4 hc hk10, q_Md_findLight_3 hc hk10, q_Md_findLight_2 hc hk10]) <;> rfl
theorem q_Md_findLight_1 {c : Nat} (hc : isChap c) : ∀ (n : Nat) (v1 : Int32) (v2 : Int32) (v3 : Int32) (v4 : Int32) (N : hn), f_Md_findLight_1 S0 n 76 v1 v2 v3 v4 (N.1, N.2, rT c) = emv c (F_Md_findLight_1 c n v1 v2 v3 v4 N) := by
  intro n
  induction n with
  | zero => intros; rfl
  | succ n ih => intro v1 v2 v3 v4 N ; exact r_Md_findLight_1 hc  ih 
set_option maxRecDepth 100000 in
set_option maxHeartbeats 4000000 in
theorem q_Md_findLight {c : Nat} (hc : isChap c) {v1 : Int32} {v2 : Int32} {N : hn} : f_Md_findLight S0 76 v1 v2 (N.1, N.2, rT c) = emv c (F_Md_findLight c v1 v2 N) := by
  unfold f_Md_findLight F_Md_findLight
  (simp only [hl_n, hl_wI, hl_wL, hl_cp, em_s, em_n, em_g, em_i, em_l, em_b, em_v, emv_s, emv_n, emv_g, emv_i, emv_l, emv_b, emv_v, hb_em, hv_em, hg_T, ne_eq, not_false_eq_true, nz_c, S0_c, S0_lw, S0_h, isHold_36, hc, hc.d, hc.l, hc.d.l, nz_1, nz_2, nz_3, nz_4, nz_5, nz_6, nz_7, nz_8, S0_76, ib_82, ib_86, ib_90, q_Md_isBroken hc, q_Md_isDark hc, q_Md_isOn hc, q_Md_ownerOf hc, q_Md_paneOf hc, q_Md_panes hc, q_Md_worthAt hc, rT_76_10, rT_76_18, rT_76_24, q_Md_findLight_1 hc]) <;> rfl
set_option maxRecDepth 100000 in
set_option maxHeartbeats 4000000 in
theorem r_Md_lightAt_1 {c : Nat} (hc : isChap c) {k11 : Nat → Int32 → Int32 → Int32 → Int32 → Int32 → Int32 → hm_M → Option (Int32 × hm_M)} {K11 : Int32 → Int32 → Int32 → Int32 → Int32 → Int32 → hn → Option (Int32 × hn)} (hk11 : ∀ (v1 : Int32) (v2 : Int32) (v3 : Int32) (v4 : Int32) (v5 : Int32) (v6 : Int32) (N : hn), k11 76 v1 v2 v3 v4 v5 v6 (N.1, N.2, rT c) = em c (K11 v1 v2 v3 v4 v5 v6 N)) {v1 : Int32} {v2 : Int32} {v3 : Int32} {v4 : Int32} {v5 : Int32} {v6 : Int32} {N : hn} : b_Md_lightAt_1 S0 k11 76 v1 v2 v3 v4 v5 v6 (N.1, N.2, rT c) = em c (B_Md_lightAt_1 c K11 v1 v2 v3 v4 v5 v6 N) := by
  unfold b_Md_lightAt_1 B_Md_lightAt_1
  (simp only [hl_n, hl_wI, hl_wL, hl_cp, em_s, em_n, em_g, em_i, em_l, em_b, em_v, emv_s, emv_n, emv_g, emv_i, emv_l, emv_b, emv_v, hb_em, hv_em, hg_T, ne_eq, not_false_eq_true, nz_c, S0_c, S0_lw, S0_h, isHold_36, hc, hc.d, hc.l, hc.d.l, nz_1, nz_2, nz_3, nz_4, nz_5, nz_6, nz_7, nz_8, S0_76, ib_90, q_Md_ownerOf hc, q_Md_paneOf hc, q_Md_panes hc, rT_76_24, hk11]) <;> rfl
theorem q_Md_lightAt_1 {c : Nat} (hc : isChap c) : ∀ (n : Nat) (v1 : Int32) (v2 : Int32) (v3 : Int32) (v4 : Int32) (v5 : Int32) (v6 : Int32) (N : hn), f_Md_lightAt_1 S0 n 76 v1 v2 v3 v4 v5 v6 (N.1, N.2, rT c) = em c (F_Md_lightAt_1 c n v1 v2 v3 v4 v5 v6 N) := by
  intro n
  induction n with
  | zero => intros; rfl
  | succ n ih => intro v1 v2 v3 v4 v5 v6 N ; exact r_Md_lightAt_1 hc  ih 
set_option maxRecDepth 100000 in
set_option maxHeartbeats 4000000 in
theorem q_Md_lightAt {c : Nat} (hc : isChap c) {v1 : Int32} {v2 : Int32} {N : hn} : f_Md_lightAt S0 76 v1 v2 (N.1, N.2, rT c) = em c (F_Md_lightAt c v1 v2 N) := by
  unfold f_Md_lightAt F_Md_lightAt
  (simp only [hl_n, hl_wI, hl_wL, hl_cp, em_s, em_n, em_g, em_i, em_l, em_b, em_v, emv_s, emv_n, emv_g, emv_i, emv_l, emv_b, emv_v, hb_em, hv_em, hg_T, ne_eq, not_false_eq_true, nz_c, S0_c, S0_lw, S0_h, isHold_36, hc, hc.d, hc.l, hc.d.l, nz_1, nz_2, nz_3, nz_4, nz_5, nz_6, nz_7, nz_8, S0_76, ib_90, q_Md_ownerOf hc, q_Md_paneOf hc, q_Md_panes hc, rT_76_24, q_Md_lightAt_1 hc]) <;> rfl
set_option maxRecDepth 100000 in
set_option maxHeartbeats 4000000 in
theorem q_Md_rentAt {c : Nat} (hc : isChap c) {v1 : Int32} {v2 : Int32} {v3 : Int32} {v4 : Int32} {N : hn} : f_Md_rentAt S0 76 v1 v2 v3 v4 (N.1, N.2, rT c) = em c (F_Md_rentAt c v1 v2 v3 v4 N) := by
  unfold f_Md_rentAt F_Md_rentAt
  (simp only [hl_n, hl_wI, hl_wL, hl_cp, em_s, em_n, em_g, em_i, em_l, em_b, em_v, emv_s, emv_n, emv_g, emv_i, emv_l, emv_b, emv_v, hb_em, hv_em, hg_T, ne_eq, not_false_eq_true, nz_c, S0_c, S0_lw, S0_h, isHold_36, hc, hc.d, hc.l, hc.d.l, nz_1, nz_2, nz_3, nz_4, nz_5, nz_6, nz_7, nz_8, S0_76, ib_82, ib_86, q_Md_worthAt hc, rT_76_10, rT_76_18]) <;> rfl
set_option maxRecDepth 100000 in
set_option maxHeartbeats 4000000 in
theorem r_Md_addsYields_1 {c : Nat} (hc : isChap c) {k8 : Nat → Int32 → Int32 → Int32 → hm_M → Option hm_M} {K8 : Int32 → Int32 → Int32 → hn → Option hn} (hk8 : ∀ (v1 : Int32) (v2 : Int32) (v3 : Int32) (N : hn), k8 76 v1 v2 v3 (N.1, N.2, rT c) = emv c (K8 v1 v2 v3 N)) {v1 : Int32} {v2 : Int32} {v3 : Int32} {N : hn} : b_Md_addsYields_1 S0 k8 76 v1 v2 v3 (N.1, N.2, rT c) = emv c (B_Md_addsYields_1 c K8 v1 v2 v3 N) := by
  unfold b_Md_addsYields_1 B_Md_addsYields_1
  (simp only [hl_n, hl_wI, hl_wL, hl_cp, em_s, em_n, em_g, em_i, em_l, em_b, em_v, emv_s, emv_n, emv_g, emv_i, emv_l, emv_b, emv_v, hb_em, hv_em, hg_T, ne_eq, not_false_eq_true, nz_c, S0_c, S0_lw, S0_h, isHold_36, hc, hc.d, hc.l, hc.d.l, nz_1, nz_2, nz_3, nz_4, nz_5, nz_6, nz_7, nz_8, S0_76, ib_90, ib_91, q_Md_findLight hc, q_Md_lightAt hc, q_Md_panes hc, q_Md_rentAt hc, rT_76_24, rT_76_25, hk8]) <;> rfl
theorem q_Md_addsYields_1 {c : Nat} (hc : isChap c) : ∀ (n : Nat) (v1 : Int32) (v2 : Int32) (v3 : Int32) (N : hn), f_Md_addsYields_1 S0 n 76 v1 v2 v3 (N.1, N.2, rT c) = emv c (F_Md_addsYields_1 c n v1 v2 v3 N) := by
  intro n
  induction n with
  | zero => intros; rfl
  | succ n ih => intro v1 v2 v3 N ; exact r_Md_addsYields_1 hc  ih 
set_option maxRecDepth 100000 in
set_option maxHeartbeats 4000000 in
theorem q_Md_addsYields {c : Nat} (hc : isChap c) {v1 : Int32} {v2 : Int32} {N : hn} : f_Md_addsYields S0 76 v1 v2 (N.1, N.2, rT c) = emv c (F_Md_addsYields c v1 v2 N) := by
  unfold f_Md_addsYields F_Md_addsYields
  (simp only [hl_n, hl_wI, hl_wL, hl_cp, em_s, em_n, em_g, em_i, em_l, em_b, em_v, emv_s, emv_n, emv_g, emv_i, emv_l, emv_b, emv_v, hb_em, hv_em, hg_T, ne_eq, not_false_eq_true, nz_c, S0_c, S0_lw, S0_h, isHold_36, hc, hc.d, hc.l, hc.d.l, nz_1, nz_2, nz_3, nz_4, nz_5, nz_6, nz_7, nz_8, S0_76, ib_90, ib_91, q_Md_findLight hc, q_Md_lightAt hc, q_Md_panes hc, q_Md_rentAt hc, rT_76_24, rT_76_25, q_Md_addsYields_1 hc]) <;> rfl
set_option maxRecDepth 100000 in
set_option maxHeartbeats 4000000 in
theorem q_Md_isSign {c : Nat} (hc : isChap c) {v1 : Int32} {N : hn} : f_Md_isSign S0 76 v1 (N.1, N.2, rT c) = em c (F_Md_isSign c v1 N) := by
  unfold f_Md_isSign F_Md_isSign
  (simp only [hl_n, hl_wI, hl_wL, hl_cp, em_s, em_n, em_g, em_i, em_l, em_b, em_v, emv_s, emv_n, emv_g, emv_i, emv_l, emv_b, emv_v, hb_em, hv_em, hg_T, ne_eq, not_false_eq_true, nz_c, S0_c, S0_lw, S0_h, isHold_36, hc, hc.d, hc.l, hc.d.l, nz_1, nz_2, nz_3, nz_4, nz_5, nz_6, nz_7, nz_8, S0_76, ib_78, ib_80, rT_76_4, rT_76_6]) <;> rfl
set_option maxRecDepth 100000 in
set_option maxHeartbeats 4000000 in
theorem q_Md_hasSign_1 {c : Nat} (hc : isChap c) {v2 : Int32} {s0 : Int32} {s1 : Int32} {N : hn} : b_Md_hasSign_1 S0 v2 s0 s1 76 (N.1, N.2, rT c) = em c (B_Md_hasSign_1 c v2 s0 s1 N) := by
  unfold b_Md_hasSign_1 B_Md_hasSign_1
  (simp only [hl_n, hl_wI, hl_wL, hl_cp, em_s, em_n, em_g, em_i, em_l, em_b, em_v, emv_s, emv_n, emv_g, emv_i, emv_l, emv_b, emv_v, hb_em, hv_em, hg_T, ne_eq, not_false_eq_true, nz_c, S0_c, S0_lw, S0_h, isHold_36, hc, hc.d, hc.l, hc.d.l, nz_1, nz_2, nz_3, nz_4, nz_5, nz_6, nz_7, nz_8, S0_76, q_Md_isSign hc]) <;> rfl
set_option maxRecDepth 100000 in
set_option maxHeartbeats 4000000 in
theorem q_Md_hasSign {c : Nat} (hc : isChap c) {v1 : Int32} {N : hn} : f_Md_hasSign S0 76 v1 (N.1, N.2, rT c) = em c (F_Md_hasSign c v1 N) := by
  unfold f_Md_hasSign F_Md_hasSign
  (simp only [hl_n, hl_wI, hl_wL, hl_cp, em_s, em_n, em_g, em_i, em_l, em_b, em_v, emv_s, emv_n, emv_g, emv_i, emv_l, emv_b, emv_v, hb_em, hv_em, hg_T, ne_eq, not_false_eq_true, nz_c, S0_c, S0_lw, S0_h, isHold_36, hc, hc.d, hc.l, hc.d.l, nz_1, nz_2, nz_3, nz_4, nz_5, nz_6, nz_7, nz_8, S0_76, q_Md_isSign hc, q_Md_hasSign_1 hc]) <;> rfl
set_option maxRecDepth 100000 in
set_option maxHeartbeats 4000000 in
theorem q_Md_emit {c : Nat} (hc : isChap c) {v1 : Int32} {v2 : Int32} {N : hn} : f_Md_emit S0 76 v1 v2 (N.1, N.2, rT c) = emv c (F_Md_emit c v1 v2 N) := by
  unfold f_Md_emit F_Md_emit
  (simp only [hl_n, hl_wI, hl_wL, hl_cp, em_s, em_n, em_g, em_i, em_l, em_b, em_v, emv_s, emv_n, emv_g, emv_i, emv_l, emv_b, emv_v, hb_em, hv_em, hg_T, ne_eq, not_false_eq_true, nz_c, S0_c, S0_lw, S0_h, isHold_36, hc, hc.d, hc.l, hc.d.l, nz_1, nz_2, nz_3, nz_4, nz_5, nz_6, nz_7, nz_8, S0_76, ib_83, ib_84, rT_76_11, rT_76_12]) <;> rfl
set_option maxRecDepth 100000 in
set_option maxHeartbeats 4000000 in
theorem q_Md_isWord {c : Nat} (hc : isChap c) {v1 : Int32} {N : hn} : f_Md_isWord S0 76 v1 (N.1, N.2, rT c) = em c (F_Md_isWord c v1 N) := by
  unfold f_Md_isWord F_Md_isWord
  (simp only [hl_n, hl_wI, hl_wL, hl_cp, em_s, em_n, em_g, em_i, em_l, em_b, em_v, emv_s, emv_n, emv_g, emv_i, emv_l, emv_b, emv_v, hb_em, hv_em, hg_T, ne_eq, not_false_eq_true, nz_c, S0_c, S0_lw, S0_h, isHold_36, hc, hc.d, hc.l, hc.d.l, nz_1, nz_2, nz_3, nz_4, nz_5, nz_6, nz_7, nz_8, S0_76, ib_78, ib_80, ib_81, rT_76_4, rT_76_6, rT_76_9]) <;> rfl
set_option maxRecDepth 100000 in
set_option maxHeartbeats 4000000 in
theorem q_Md_isPane {c : Nat} (hc : isChap c) {v1 : Int32} {N : hn} : f_Md_isPane S0 76 v1 (N.1, N.2, rT c) = em c (F_Md_isPane c v1 N) := by
  unfold f_Md_isPane F_Md_isPane
  (simp only [hl_n, hl_wI, hl_wL, hl_cp, em_s, em_n, em_g, em_i, em_l, em_b, em_v, emv_s, emv_n, emv_g, emv_i, emv_l, emv_b, emv_v, hb_em, hv_em, hg_T, ne_eq, not_false_eq_true, nz_c, S0_c, S0_lw, S0_h, isHold_36, hc, hc.d, hc.l, hc.d.l, nz_1, nz_2, nz_3, nz_4, nz_5, nz_6, nz_7, nz_8, S0_76, q_Md_panes hc]) <;> rfl
set_option maxRecDepth 100000 in
set_option maxHeartbeats 4000000 in
theorem q_Md_areUnlike {c : Nat} (hc : isChap c) {v1 : Int32} {v2 : Int32} {N : hn} : f_Md_areUnlike S0 76 v1 v2 (N.1, N.2, rT c) = em c (F_Md_areUnlike c v1 v2 N) := by
  unfold f_Md_areUnlike F_Md_areUnlike
  (simp only [hl_n, hl_wI, hl_wL, hl_cp, em_s, em_n, em_g, em_i, em_l, em_b, em_v, emv_s, emv_n, emv_g, emv_i, emv_l, emv_b, emv_v, hb_em, hv_em, hg_T, ne_eq, not_false_eq_true, nz_c, S0_c, S0_lw, S0_h, isHold_36, hc, hc.d, hc.l, hc.d.l, nz_1, nz_2, nz_3, nz_4, nz_5, nz_6, nz_7, nz_8, S0_76, q_Md_isPane hc, q_Md_ownerOf hc]) <;> rfl
set_option maxRecDepth 100000 in
set_option maxHeartbeats 4000000 in
theorem r_Md_findYields_2 {c : Nat} (hc : isChap c) {k23 : Nat → Int32 → hm_M → Option hm_M} {K23 : Int32 → hn → Option hn} (hk23 : ∀ (v1 : Int32) (N : hn), k23 76 v1 (N.1, N.2, rT c) = emv c (K23 v1 N)) {v1 : Int32} {N : hn} : b_Md_findYields_2 S0 k23 76 v1 (N.1, N.2, rT c) = emv c (B_Md_findYields_2 c K23 v1 N) := by
  unfold b_Md_findYields_2 B_Md_findYields_2
  (simp only [hl_n, hl_wI, hl_wL, hl_cp, em_s, em_n, em_g, em_i, em_l, em_b, em_v, emv_s, emv_n, emv_g, emv_i, emv_l, emv_b, emv_v, hb_em, hv_em, hg_T, ne_eq, not_false_eq_true, nz_c, S0_c, S0_lw, S0_h, isHold_36, hc, hc.d, hc.l, hc.d.l, nz_1, nz_2, nz_3, nz_4, nz_5, nz_6, nz_7, nz_8, S0_76, ib_91, q_Md_addsYields hc, rT_76_25, hk23]) <;> rfl
theorem q_Md_findYields_2 {c : Nat} (hc : isChap c) : ∀ (n : Nat) (v1 : Int32) (N : hn), f_Md_findYields_2 S0 n 76 v1 (N.1, N.2, rT c) = emv c (F_Md_findYields_2 c n v1 N) := by
  intro n
  induction n with
  | zero => intros; rfl
  | succ n ih => intro v1 N ; exact r_Md_findYields_2 hc  ih 
set_option maxRecDepth 100000 in
set_option maxHeartbeats 4000000 in
theorem r_Md_findYields_1 {c : Nat} (hc : isChap c) {k2 : Nat → Int32 → hm_M → Option hm_M} {K2 : Int32 → hn → Option hn} (hk2 : ∀ (v1 : Int32) (N : hn), k2 76 v1 (N.1, N.2, rT c) = emv c (K2 v1 N)) {v1 : Int32} {N : hn} : b_Md_findYields_1 S0 k2 76 v1 (N.1, N.2, rT c) = emv c (B_Md_findYields_1 c K2 v1 N) := by
  unfold b_Md_findYields_1 B_Md_findYields_1
  (simp only [hl_n, hl_wI, hl_wL, hl_cp, em_s, em_n, em_g, em_i, em_l, em_b, em_v, emv_s, emv_n, emv_g, emv_i, emv_l, emv_b, emv_v, hb_em, hv_em, hg_T, ne_eq, not_false_eq_true, nz_c, S0_c, S0_lw, S0_h, isHold_36, hc, hc.d, hc.l, hc.d.l, nz_1, nz_2, nz_3, nz_4, nz_5, nz_6, nz_7, nz_8, S0_76, ib_91, q_Md_addsYields hc, rT_76_25, hk2, q_Md_findYields_2 hc]) <;> rfl
theorem q_Md_findYields_1 {c : Nat} (hc : isChap c) : ∀ (n : Nat) (v1 : Int32) (N : hn), f_Md_findYields_1 S0 n 76 v1 (N.1, N.2, rT c) = emv c (F_Md_findYields_1 c n v1 N) := by
  intro n
  induction n with
  | zero => intros; rfl
  | succ n ih => intro v1 N ; exact r_Md_findYields_1 hc  ih 
set_option maxRecDepth 100000 in
set_option maxHeartbeats 4000000 in
theorem q_Md_findYields {c : Nat} (hc : isChap c) {N : hn} : f_Md_findYields S0 76 (N.1, N.2, rT c) = emv c (F_Md_findYields c N) := by
  unfold f_Md_findYields F_Md_findYields
  (simp only [hl_n, hl_wI, hl_wL, hl_cp, em_s, em_n, em_g, em_i, em_l, em_b, em_v, emv_s, emv_n, emv_g, emv_i, emv_l, emv_b, emv_v, hb_em, hv_em, hg_T, ne_eq, not_false_eq_true, nz_c, S0_c, S0_lw, S0_h, isHold_36, hc, hc.d, hc.l, hc.d.l, nz_1, nz_2, nz_3, nz_4, nz_5, nz_6, nz_7, nz_8, S0_76, ib_91, q_Md_addsYields hc, rT_76_25, q_Md_findYields_1 hc, q_Md_findYields_2 hc]) <;> rfl
set_option maxRecDepth 100000 in
set_option maxHeartbeats 4000000 in
theorem r_Md_bits_1 {c : Nat} (hc : isChap c) {k4 : Int32 → Int32 → Int32 → hm_M → Option (Int32 × hm_M)} {K4 : Int32 → Int32 → Int32 → hn → Option (Int32 × hn)} (hk4 : ∀ (v0 : Int32) (v1 : Int32) (v2 : Int32) (N : hn), k4 v0 v1 v2 (N.1, N.2, rT c) = em c (K4 v0 v1 v2 N)) {v0 : Int32} {v1 : Int32} {v2 : Int32} {N : hn} : b_Md_bits_1 S0 k4 v0 v1 v2 (N.1, N.2, rT c) = em c (B_Md_bits_1 c K4 v0 v1 v2 N) := by
  unfold b_Md_bits_1 B_Md_bits_1
  (simp only [hl_n, hl_wI, hl_wL, hl_cp, em_s, em_n, em_g, em_i, em_l, em_b, em_v, emv_s, emv_n, emv_g, emv_i, emv_l, emv_b, emv_v, hb_em, hv_em, hg_T, ne_eq, not_false_eq_true, nz_c, S0_c, S0_lw, S0_h, isHold_36, hc, hc.d, hc.l, hc.d.l, nz_1, nz_2, nz_3, nz_4, nz_5, nz_6, nz_7, nz_8, S0_76, hk4]) <;> rfl
theorem q_Md_bits_1 {c : Nat} (hc : isChap c) : ∀ (n : Nat) (v0 : Int32) (v1 : Int32) (v2 : Int32) (N : hn), f_Md_bits_1 S0 n v0 v1 v2 (N.1, N.2, rT c) = em c (F_Md_bits_1 c n v0 v1 v2 N) := by
  intro n
  induction n with
  | zero => intros; rfl
  | succ n ih => intro v0 v1 v2 N ; exact r_Md_bits_1 hc  ih 
set_option maxRecDepth 100000 in
set_option maxHeartbeats 4000000 in
theorem q_Md_bits {c : Nat} (hc : isChap c) {v0 : Int32} {N : hn} : f_Md_bits S0 v0 (N.1, N.2, rT c) = em c (F_Md_bits c v0 N) := by
  unfold f_Md_bits F_Md_bits
  (simp only [hl_n, hl_wI, hl_wL, hl_cp, em_s, em_n, em_g, em_i, em_l, em_b, em_v, emv_s, emv_n, emv_g, emv_i, emv_l, emv_b, emv_v, hb_em, hv_em, hg_T, ne_eq, not_false_eq_true, nz_c, S0_c, S0_lw, S0_h, isHold_36, hc, hc.d, hc.l, hc.d.l, nz_1, nz_2, nz_3, nz_4, nz_5, nz_6, nz_7, nz_8, S0_76, q_Md_bits_1 hc]) <;> rfl
set_option maxRecDepth 100000 in
set_option maxHeartbeats 4000000 in
theorem q_Md_worthOf {c : Nat} (hc : isChap c) {v1 : Int32} {v2 : Int32} {N : hn} : f_Md_worthOf S0 76 v1 v2 (N.1, N.2, rT c) = em c (F_Md_worthOf c v1 v2 N) := by
  unfold f_Md_worthOf F_Md_worthOf
  (simp only [hl_n, hl_wI, hl_wL, hl_cp, em_s, em_n, em_g, em_i, em_l, em_b, em_v, emv_s, emv_n, emv_g, emv_i, emv_l, emv_b, emv_v, hb_em, hv_em, hg_T, ne_eq, not_false_eq_true, nz_c, S0_c, S0_lw, S0_h, isHold_36, hc, hc.d, hc.l, hc.d.l, nz_1, nz_2, nz_3, nz_4, nz_5, nz_6, nz_7, nz_8, S0_76, ib_82, ib_91, q_Md_bits hc, q_Md_paneOf hc, rT_76_10, rT_76_25]) <;> rfl
set_option maxRecDepth 100000 in
set_option maxHeartbeats 4000000 in
theorem q_Md_gainOf {c : Nat} (hc : isChap c) {v1 : Int32} {v2 : Int32} {N : hn} : f_Md_gainOf S0 76 v1 v2 (N.1, N.2, rT c) = em c (F_Md_gainOf c v1 v2 N) := by
  unfold f_Md_gainOf F_Md_gainOf
  (simp only [hl_n, hl_wI, hl_wL, hl_cp, em_s, em_n, em_g, em_i, em_l, em_b, em_v, emv_s, emv_n, emv_g, emv_i, emv_l, emv_b, emv_v, hb_em, hv_em, hg_T, ne_eq, not_false_eq_true, nz_c, S0_c, S0_lw, S0_h, isHold_36, hc, hc.d, hc.l, hc.d.l, nz_1, nz_2, nz_3, nz_4, nz_5, nz_6, nz_7, nz_8, S0_76, q_Md_ownerOf hc, q_Md_worthOf hc]) <;> rfl
set_option maxRecDepth 100000 in
set_option maxHeartbeats 4000000 in
theorem r_Md_best_2 {c : Nat} (hc : isChap c) {k26 : Nat → Int32 → Int32 → hm_M → Option (Int32 × hm_M)} {K26 : Int32 → Int32 → hn → Option (Int32 × hn)} (hk26 : ∀ (v1 : Int32) (v2 : Int32) (N : hn), k26 76 v1 v2 (N.1, N.2, rT c) = em c (K26 v1 v2 N)) {v1 : Int32} {v2 : Int32} {N : hn} : b_Md_best_2 S0 k26 76 v1 v2 (N.1, N.2, rT c) = em c (B_Md_best_2 c K26 v1 v2 N) := by
  unfold b_Md_best_2 B_Md_best_2
  (simp only [hl_n, hl_wI, hl_wL, hl_cp, em_s, em_n, em_g, em_i, em_l, em_b, em_v, emv_s, emv_n, emv_g, emv_i, emv_l, emv_b, emv_v, hb_em, hv_em, hg_T, ne_eq, not_false_eq_true, nz_c, S0_c, S0_lw, S0_h, isHold_36, hc, hc.d, hc.l, hc.d.l, nz_1, nz_2, nz_3, nz_4, nz_5, nz_6, nz_7, nz_8, S0_76, ib_92, ib_93, q_Md_findYields hc, q_Md_isPane hc, q_Md_tries hc, rT_76_26, rT_76_27, hk26]) <;> rfl
theorem q_Md_best_2 {c : Nat} (hc : isChap c) : ∀ (n : Nat) (v1 : Int32) (v2 : Int32) (N : hn), f_Md_best_2 S0 n 76 v1 v2 (N.1, N.2, rT c) = em c (F_Md_best_2 c n v1 v2 N) := by
  intro n
  induction n with
  | zero => intros; rfl
  | succ n ih => intro v1 v2 N ; exact r_Md_best_2 hc  ih 
set_option maxRecDepth 100000 in
set_option maxHeartbeats 4000000 in
theorem q_Md_best_1 {c : Nat} (hc : isChap c) {v1 : Int32} {N : hn} : b_Md_best_1 S0 76 v1 (N.1, N.2, rT c) = em c (B_Md_best_1 c v1 N) := by
  unfold b_Md_best_1 B_Md_best_1
  (simp only [hl_n, hl_wI, hl_wL, hl_cp, em_s, em_n, em_g, em_i, em_l, em_b, em_v, emv_s, emv_n, emv_g, emv_i, emv_l, emv_b, emv_v, hb_em, hv_em, hg_T, ne_eq, not_false_eq_true, nz_c, S0_c, S0_lw, S0_h, isHold_36, hc, hc.d, hc.l, hc.d.l, nz_1, nz_2, nz_3, nz_4, nz_5, nz_6, nz_7, nz_8, S0_76, ib_92, ib_93, q_Md_findYields hc, q_Md_isPane hc, q_Md_tries hc, rT_76_26, rT_76_27, q_Md_best_2 hc]) <;> rfl
set_option maxRecDepth 100000 in
set_option maxHeartbeats 4000000 in
theorem q_Md_best {c : Nat} (hc : isChap c) {v1 : Int32} {N : hn} : f_Md_best S0 76 v1 (N.1, N.2, rT c) = em c (F_Md_best c v1 N) := by
  unfold f_Md_best F_Md_best
  (simp only [hl_n, hl_wI, hl_wL, hl_cp, em_s, em_n, em_g, em_i, em_l, em_b, em_v, emv_s, emv_n, emv_g, emv_i, emv_l, emv_b, emv_v, hb_em, hv_em, hg_T, ne_eq, not_false_eq_true, nz_c, S0_c, S0_lw, S0_h, isHold_36, hc, hc.d, hc.l, hc.d.l, nz_1, nz_2, nz_3, nz_4, nz_5, nz_6, nz_7, nz_8, S0_76, ib_92, ib_93, q_Md_findYields hc, q_Md_isPane hc, q_Md_tries hc, rT_76_26, rT_76_27, q_Md_best_1 hc, q_Md_best_2 hc]) <;> rfl
set_option maxRecDepth 100000 in
set_option maxHeartbeats 4000000 in
theorem r_Md_copies_1 {c : Nat} (hc : isChap c) {k3 : Nat → Int32 → Int32 → Int32 → Int32 → hm_M → Option hm_M} {K3 : Int32 → Int32 → Int32 → Int32 → hn → Option hn} (hk3 : ∀ (v1 : Int32) (v2 : Int32) (v3 : Int32) (v4 : Int32) (N : hn), k3 76 v1 v2 v3 v4 (N.1, N.2, rT c) = emv c (K3 v1 v2 v3 v4 N)) {v1 : Int32} {v2 : Int32} {v3 : Int32} {v4 : Int32} {N : hn} : b_Md_copies_1 S0 k3 76 v1 v2 v3 v4 (N.1, N.2, rT c) = emv c (B_Md_copies_1 c K3 v1 v2 v3 v4 N) := by
  unfold b_Md_copies_1 B_Md_copies_1
  (simp only [hl_n, hl_wI, hl_wL, hl_cp, em_s, em_n, em_g, em_i, em_l, em_b, em_v, emv_s, emv_n, emv_g, emv_i, emv_l, emv_b, emv_v, hb_em, hv_em, hg_T, ne_eq, not_false_eq_true, nz_c, S0_c, S0_lw, S0_h, isHold_36, hc, hc.d, hc.l, hc.d.l, nz_1, nz_2, nz_3, nz_4, nz_5, nz_6, nz_7, nz_8, S0_76, ib_88, rT_76_20, hk3]) <;> rfl
theorem q_Md_copies_1 {c : Nat} (hc : isChap c) : ∀ (n : Nat) (v1 : Int32) (v2 : Int32) (v3 : Int32) (v4 : Int32) (N : hn), f_Md_copies_1 S0 n 76 v1 v2 v3 v4 (N.1, N.2, rT c) = emv c (F_Md_copies_1 c n v1 v2 v3 v4 N) := by
  intro n
  induction n with
  | zero => intros; rfl
  | succ n ih => intro v1 v2 v3 v4 N ; exact r_Md_copies_1 hc  ih 
set_option maxRecDepth 100000 in
set_option maxHeartbeats 4000000 in
theorem q_Md_copies {c : Nat} (hc : isChap c) {v1 : Int32} {v2 : Int32} {v3 : Int32} {N : hn} : f_Md_copies S0 76 v1 v2 v3 (N.1, N.2, rT c) = emv c (F_Md_copies c v1 v2 v3 N) := by
  unfold f_Md_copies F_Md_copies
  (simp only [hl_n, hl_wI, hl_wL, hl_cp, em_s, em_n, em_g, em_i, em_l, em_b, em_v, emv_s, emv_n, emv_g, emv_i, emv_l, emv_b, emv_v, hb_em, hv_em, hg_T, ne_eq, not_false_eq_true, nz_c, S0_c, S0_lw, S0_h, isHold_36, hc, hc.d, hc.l, hc.d.l, nz_1, nz_2, nz_3, nz_4, nz_5, nz_6, nz_7, nz_8, S0_76, ib_88, rT_76_20, q_Md_copies_1 hc]) <;> rfl
set_option maxRecDepth 100000 in
set_option maxHeartbeats 4000000 in
theorem q_Md_keeps_2 {c : Nat} (hc : isChap c) {N : hn} : b_Md_keeps_2 S0 76 (N.1, N.2, rT c) = emv c (B_Md_keeps_2 c N) := by
  unfold b_Md_keeps_2 B_Md_keeps_2
  (simp only [hl_n, hl_wI, hl_wL, hl_cp, em_s, em_n, em_g, em_i, em_l, em_b, em_v, emv_s, emv_n, emv_g, emv_i, emv_l, emv_b, emv_v, hb_em, hv_em, hg_T, ne_eq, not_false_eq_true, nz_c, S0_c, S0_lw, S0_h, isHold_36, hc, hc.d, hc.l, hc.d.l, nz_1, nz_2, nz_3, nz_4, nz_5, nz_6, nz_7, nz_8, S0_76, q_Md_copies hc]) <;> rfl
set_option maxRecDepth 100000 in
set_option maxHeartbeats 4000000 in
theorem r_Md_keeps_1 {c : Nat} (hc : isChap c) {k11 : Nat → Int32 → hm_M → Option hm_M} {K11 : Int32 → hn → Option hn} (hk11 : ∀ (v1 : Int32) (N : hn), k11 76 v1 (N.1, N.2, rT c) = emv c (K11 v1 N)) {v1 : Int32} {N : hn} : b_Md_keeps_1 S0 k11 76 v1 (N.1, N.2, rT c) = emv c (B_Md_keeps_1 c K11 v1 N) := by
  unfold b_Md_keeps_1 B_Md_keeps_1
  (simp only [hl_n, hl_wI, hl_wL, hl_cp, em_s, em_n, em_g, em_i, em_l, em_b, em_v, emv_s, emv_n, emv_g, emv_i, emv_l, emv_b, emv_v, hb_em, hv_em, hg_T, ne_eq, not_false_eq_true, nz_c, S0_c, S0_lw, S0_h, isHold_36, hc, hc.d, hc.l, hc.d.l, nz_1, nz_2, nz_3, nz_4, nz_5, nz_6, nz_7, nz_8, S0_76, q_Md_copies hc, hk11, q_Md_keeps_2 hc]) <;> rfl
theorem q_Md_keeps_1 {c : Nat} (hc : isChap c) : ∀ (n : Nat) (v1 : Int32) (N : hn), f_Md_keeps_1 S0 n 76 v1 (N.1, N.2, rT c) = emv c (F_Md_keeps_1 c n v1 N) := by
  intro n
  induction n with
  | zero => intros; rfl
  | succ n ih => intro v1 N ; exact r_Md_keeps_1 hc  ih 
set_option maxRecDepth 100000 in
set_option maxHeartbeats 4000000 in
theorem q_Md_keeps {c : Nat} (hc : isChap c) {N : hn} : f_Md_keeps S0 76 (N.1, N.2, rT c) = emv c (F_Md_keeps c N) := by
  unfold f_Md_keeps F_Md_keeps
  (simp only [hl_n, hl_wI, hl_wL, hl_cp, em_s, em_n, em_g, em_i, em_l, em_b, em_v, emv_s, emv_n, emv_g, emv_i, emv_l, emv_b, emv_v, hb_em, hv_em, hg_T, ne_eq, not_false_eq_true, nz_c, S0_c, S0_lw, S0_h, isHold_36, hc, hc.d, hc.l, hc.d.l, nz_1, nz_2, nz_3, nz_4, nz_5, nz_6, nz_7, nz_8, S0_76, q_Md_copies hc, q_Md_keeps_1 hc, q_Md_keeps_2 hc]) <;> rfl
set_option maxRecDepth 100000 in
set_option maxHeartbeats 4000000 in
theorem q_Md_breaks {c : Nat} (hc : isChap c) {v1 : Int32} {v2 : Int32} {N : hn} : f_Md_breaks S0 76 v1 v2 (N.1, N.2, rT c) = em c (F_Md_breaks c v1 v2 N) := by
  unfold f_Md_breaks F_Md_breaks
  (simp only [hl_n, hl_wI, hl_wL, hl_cp, em_s, em_n, em_g, em_i, em_l, em_b, em_v, emv_s, emv_n, emv_g, emv_i, emv_l, emv_b, emv_v, hb_em, hv_em, hg_T, ne_eq, not_false_eq_true, nz_c, S0_c, S0_lw, S0_h, isHold_36, hc, hc.d, hc.l, hc.d.l, nz_1, nz_2, nz_3, nz_4, nz_5, nz_6, nz_7, nz_8, S0_76, ib_88, q_Md_isBroken hc, q_Md_isPane hc, q_Md_keeps hc, rT_76_20]) <;> rfl
set_option maxRecDepth 100000 in
set_option maxHeartbeats 4000000 in
theorem q_Md_within {c : Nat} (hc : isChap c) {v0 : Int32} {v1 : Int32} {v2 : Int32} {N : hn} : f_Md_within S0 v0 v1 v2 (N.1, N.2, rT c) = em c (F_Md_within c v0 v1 v2 N) := by
  unfold f_Md_within F_Md_within
  (simp only [hl_n, hl_wI, hl_wL, hl_cp, em_s, em_n, em_g, em_i, em_l, em_b, em_v, emv_s, emv_n, emv_g, emv_i, emv_l, emv_b, emv_v, hb_em, hv_em, hg_T, ne_eq, not_false_eq_true, nz_c, S0_c, S0_lw, S0_h, isHold_36, hc, hc.d, hc.l, hc.d.l, nz_1, nz_2, nz_3, nz_4, nz_5, nz_6, nz_7, nz_8, S0_76]) <;> rfl
set_option maxRecDepth 100000 in
set_option maxHeartbeats 4000000 in
theorem q_Md_isTime {c : Nat} (hc : isChap c) {v0 : Int32} {v1 : Int32} {N : hn} : f_Md_isTime S0 v0 v1 (N.1, N.2, rT c) = em c (F_Md_isTime c v0 v1 N) := by
  unfold f_Md_isTime F_Md_isTime
  (simp only [hl_n, hl_wI, hl_wL, hl_cp, em_s, em_n, em_g, em_i, em_l, em_b, em_v, emv_s, emv_n, emv_g, emv_i, emv_l, emv_b, emv_v, hb_em, hv_em, hg_T, ne_eq, not_false_eq_true, nz_c, S0_c, S0_lw, S0_h, isHold_36, hc, hc.d, hc.l, hc.d.l, nz_1, nz_2, nz_3, nz_4, nz_5, nz_6, nz_7, nz_8, S0_76, q_Md_within hc]) <;> rfl
set_option maxRecDepth 100000 in
set_option maxHeartbeats 4000000 in
theorem q_Md_canStain {c : Nat} (hc : isChap c) {v1 : Int32} {v2 : Int32} {v3 : Int32} {v4 : Int32} {N : hn} : f_Md_canStain S0 76 v1 v2 v3 v4 (N.1, N.2, rT c) = em c (F_Md_canStain c v1 v2 v3 v4 N) := by
  unfold f_Md_canStain F_Md_canStain
  (simp only [hl_n, hl_wI, hl_wL, hl_cp, em_s, em_n, em_g, em_i, em_l, em_b, em_v, emv_s, emv_n, emv_g, emv_i, emv_l, emv_b, emv_v, hb_em, hv_em, hg_T, ne_eq, not_false_eq_true, nz_c, S0_c, S0_lw, S0_h, isHold_36, hc, hc.d, hc.l, hc.d.l, nz_1, nz_2, nz_3, nz_4, nz_5, nz_6, nz_7, nz_8, S0_76, q_Md_isTime hc, q_Md_within hc]) <;> rfl
set_option maxRecDepth 100000 in
set_option maxHeartbeats 4000000 in
theorem q_Md_seens {c : Nat} (hc : isChap c) {N : hn} : f_Md_seens S0 76 (N.1, N.2, rT c) = em c (F_Md_seens c N) := by
  unfold f_Md_seens F_Md_seens
  (simp only [hl_n, hl_wI, hl_wL, hl_cp, em_s, em_n, em_g, em_i, em_l, em_b, em_v, emv_s, emv_n, emv_g, emv_i, emv_l, emv_b, emv_v, hb_em, hv_em, hg_T, ne_eq, not_false_eq_true, nz_c, S0_c, S0_lw, S0_h, isHold_36, hc, hc.d, hc.l, hc.d.l, nz_1, nz_2, nz_3, nz_4, nz_5, nz_6, nz_7, nz_8, S0_76, ib_88, rT_76_20]) <;> rfl
set_option maxRecDepth 100000 in
set_option maxHeartbeats 4000000 in
theorem q_Md_candlesAt_2 {c : Nat} (hc : isChap c) {k11 : Nat → Int32 → Int32 → hm_M → Option (Int32 × hm_M)} {K11 : Int32 → Int32 → hn → Option (Int32 × hn)} (hk11 : ∀ (v3 : Int32) (v4 : Int32) (N : hn), k11 76 v3 v4 (N.1, N.2, rT c) = em c (K11 v3 v4 N)) {v4 : Int32} {s0 : Int32} {s1 : Int32} {N : hn} : b_Md_candlesAt_2 S0 k11 76 v4 s0 s1 (N.1, N.2, rT c) = em c (B_Md_candlesAt_2 c K11 v4 s0 s1 N) := by
  unfold b_Md_candlesAt_2 B_Md_candlesAt_2
  (simp only [hl_n, hl_wI, hl_wL, hl_cp, em_s, em_n, em_g, em_i, em_l, em_b, em_v, emv_s, emv_n, emv_g, emv_i, emv_l, emv_b, emv_v, hb_em, hv_em, hg_T, ne_eq, not_false_eq_true, nz_c, S0_c, S0_lw, S0_h, isHold_36, hc, hc.d, hc.l, hc.d.l, nz_1, nz_2, nz_3, nz_4, nz_5, nz_6, nz_7, nz_8, S0_76, ib_88, q_Md_findLight hc, q_Md_lightAt hc, q_Md_seens hc, rT_76_20, hk11]) <;> rfl
set_option maxRecDepth 100000 in
set_option maxHeartbeats 4000000 in
theorem r_Md_candlesAt_1 {c : Nat} (hc : isChap c) {k11 : Nat → Int32 → Int32 → hm_M → Option (Int32 × hm_M)} {K11 : Int32 → Int32 → hn → Option (Int32 × hn)} (hk11 : ∀ (v3 : Int32) (v4 : Int32) (N : hn), k11 76 v3 v4 (N.1, N.2, rT c) = em c (K11 v3 v4 N)) {v3 : Int32} {v4 : Int32} {N : hn} : b_Md_candlesAt_1 S0 k11 76 v3 v4 (N.1, N.2, rT c) = em c (B_Md_candlesAt_1 c K11 v3 v4 N) := by
  unfold b_Md_candlesAt_1 B_Md_candlesAt_1
  (simp only [hl_n, hl_wI, hl_wL, hl_cp, em_s, em_n, em_g, em_i, em_l, em_b, em_v, emv_s, emv_n, emv_g, emv_i, emv_l, emv_b, emv_v, hb_em, hv_em, hg_T, ne_eq, not_false_eq_true, nz_c, S0_c, S0_lw, S0_h, isHold_36, hc, hc.d, hc.l, hc.d.l, nz_1, nz_2, nz_3, nz_4, nz_5, nz_6, nz_7, nz_8, S0_76, ib_88, q_Md_findLight hc, q_Md_lightAt hc, q_Md_seens hc, rT_76_20, hk11, q_Md_candlesAt_2 hc hk11]) <;> rfl
theorem q_Md_candlesAt_1 {c : Nat} (hc : isChap c) : ∀ (n : Nat) (v3 : Int32) (v4 : Int32) (N : hn), f_Md_candlesAt_1 S0 n 76 v3 v4 (N.1, N.2, rT c) = em c (F_Md_candlesAt_1 c n v3 v4 N) := by
  intro n
  induction n with
  | zero => intros; rfl
  | succ n ih => intro v3 v4 N ; exact r_Md_candlesAt_1 hc  ih 
set_option maxRecDepth 100000 in
set_option maxHeartbeats 4000000 in
theorem q_Md_candlesAt {c : Nat} (hc : isChap c) {v1 : Int32} {v2 : Int32} {N : hn} : f_Md_candlesAt S0 76 v1 v2 (N.1, N.2, rT c) = em c (F_Md_candlesAt c v1 v2 N) := by
  unfold f_Md_candlesAt F_Md_candlesAt
  (simp only [hl_n, hl_wI, hl_wL, hl_cp, em_s, em_n, em_g, em_i, em_l, em_b, em_v, emv_s, emv_n, emv_g, emv_i, emv_l, emv_b, emv_v, hb_em, hv_em, hg_T, ne_eq, not_false_eq_true, nz_c, S0_c, S0_lw, S0_h, isHold_36, hc, hc.d, hc.l, hc.d.l, nz_1, nz_2, nz_3, nz_4, nz_5, nz_6, nz_7, nz_8, S0_76, ib_88, q_Md_findLight hc, q_Md_lightAt hc, q_Md_seens hc, rT_76_20, q_Md_candlesAt_1 hc]) <;> rfl
set_option maxRecDepth 100000 in
set_option maxHeartbeats 4000000 in
theorem q_Md_candles {c : Nat} (hc : isChap c) {v1 : Int32} {v2 : Int32} {N : hn} : f_Md_candles S0 76 v1 v2 (N.1, N.2, rT c) = em c (F_Md_candles c v1 v2 N) := by
  unfold f_Md_candles F_Md_candles
  (simp only [hl_n, hl_wI, hl_wL, hl_cp, em_s, em_n, em_g, em_i, em_l, em_b, em_v, emv_s, emv_n, emv_g, emv_i, emv_l, emv_b, emv_v, hb_em, hv_em, hg_T, ne_eq, not_false_eq_true, nz_c, S0_c, S0_lw, S0_h, isHold_36, hc, hc.d, hc.l, hc.d.l, nz_1, nz_2, nz_3, nz_4, nz_5, nz_6, nz_7, nz_8, S0_76, q_Md_candlesAt hc, q_Md_isTime hc]) <;> rfl
set_option maxRecDepth 100000 in
set_option maxHeartbeats 4000000 in
theorem q_Md_isLetter {c : Nat} (hc : isChap c) {v0 : Int32} {N : hn} : f_Md_isLetter S0 v0 (N.1, N.2, rT c) = em c (F_Md_isLetter c v0 N) := by
  unfold f_Md_isLetter F_Md_isLetter
  (simp only [hl_n, hl_wI, hl_wL, hl_cp, em_s, em_n, em_g, em_i, em_l, em_b, em_v, emv_s, emv_n, emv_g, emv_i, emv_l, emv_b, emv_v, hb_em, hv_em, hg_T, ne_eq, not_false_eq_true, nz_c, S0_c, S0_lw, S0_h, isHold_36, hc, hc.d, hc.l, hc.d.l, nz_1, nz_2, nz_3, nz_4, nz_5, nz_6, nz_7, nz_8, S0_76]) <;> rfl
set_option maxRecDepth 100000 in
set_option maxHeartbeats 4000000 in
theorem q_Md_rank {c : Nat} (hc : isChap c) {v0 : Int32} {N : hn} : f_Md_rank S0 v0 (N.1, N.2, rT c) = em c (F_Md_rank c v0 N) := by
  unfold f_Md_rank F_Md_rank
  (simp only [hl_n, hl_wI, hl_wL, hl_cp, em_s, em_n, em_g, em_i, em_l, em_b, em_v, emv_s, emv_n, emv_g, emv_i, emv_l, emv_b, emv_v, hb_em, hv_em, hg_T, ne_eq, not_false_eq_true, nz_c, S0_c, S0_lw, S0_h, isHold_36, hc, hc.d, hc.l, hc.d.l, nz_1, nz_2, nz_3, nz_4, nz_5, nz_6, nz_7, nz_8, S0_76, q_Md_isLetter hc]) <;> rfl
set_option maxRecDepth 100000 in
set_option maxHeartbeats 4000000 in
theorem q_Md_isDigit {c : Nat} (hc : isChap c) {v0 : Int32} {N : hn} : f_Md_isDigit S0 v0 (N.1, N.2, rT c) = em c (F_Md_isDigit c v0 N) := by
  unfold f_Md_isDigit F_Md_isDigit
  (simp only [hl_n, hl_wI, hl_wL, hl_cp, em_s, em_n, em_g, em_i, em_l, em_b, em_v, emv_s, emv_n, emv_g, emv_i, emv_l, emv_b, emv_v, hb_em, hv_em, hg_T, ne_eq, not_false_eq_true, nz_c, S0_c, S0_lw, S0_h, isHold_36, hc, hc.d, hc.l, hc.d.l, nz_1, nz_2, nz_3, nz_4, nz_5, nz_6, nz_7, nz_8, S0_76]) <;> rfl
set_option maxRecDepth 100000 in
set_option maxHeartbeats 4000000 in
theorem q_Md_isSignOf {c : Nat} (hc : isChap c) {v0 : Int32} {N : hn} : f_Md_isSignOf S0 v0 (N.1, N.2, rT c) = em c (F_Md_isSignOf c v0 N) := by
  unfold f_Md_isSignOf F_Md_isSignOf
  (simp only [hl_n, hl_wI, hl_wL, hl_cp, em_s, em_n, em_g, em_i, em_l, em_b, em_v, emv_s, emv_n, emv_g, emv_i, emv_l, emv_b, emv_v, hb_em, hv_em, hg_T, ne_eq, not_false_eq_true, nz_c, S0_c, S0_lw, S0_h, isHold_36, hc, hc.d, hc.l, hc.d.l, nz_1, nz_2, nz_3, nz_4, nz_5, nz_6, nz_7, nz_8, S0_76]) <;> rfl
set_option maxRecDepth 100000 in
set_option maxHeartbeats 4000000 in
theorem q_Md_cutAll_11 {c : Nat} (hc : isChap c) {k17 : Nat → Int32 → Int32 → hm_M → Option hm_M} {K17 : Int32 → Int32 → hn → Option hn} (hk17 : ∀ (v1 : Int32) (v2 : Int32) (N : hn), k17 76 v1 v2 (N.1, N.2, rT c) = emv c (K17 v1 v2 N)) {v1 : Int32} {v2 : Int32} {v5 : Int64} {N : hn} : b_Md_cutAll_11 S0 k17 76 v1 v2 v5 (N.1, N.2, rT c) = emv c (B_Md_cutAll_11 c K17 v1 v2 v5 N) := by
  unfold b_Md_cutAll_11 B_Md_cutAll_11
  (simp only [hl_n, hl_wI, hl_wL, hl_cp, em_s, em_n, em_g, em_i, em_l, em_b, em_v, emv_s, emv_n, emv_g, emv_i, emv_l, emv_b, emv_v, hb_em, hv_em, hg_T, ne_eq, not_false_eq_true, nz_c, S0_c, S0_lw, S0_h, isHold_36, hc, hc.d, hc.l, hc.d.l, nz_1, nz_2, nz_3, nz_4, nz_5, nz_6, nz_7, nz_8, S0_76, ib_77, ib_78, ib_79, ib_80, q_Md_isDigit hc, q_Md_isLetter hc, q_Md_isSignOf hc, q_Md_rank hc, rT_76_1, rT_76_4, rT_76_5, rT_76_6, hk17]) <;> rfl
set_option maxRecDepth 100000 in
set_option maxHeartbeats 4000000 in
theorem q_Md_cutAll_10 {c : Nat} (hc : isChap c) {k17 : Nat → Int32 → Int32 → hm_M → Option hm_M} {K17 : Int32 → Int32 → hn → Option hn} (hk17 : ∀ (v1 : Int32) (v2 : Int32) (N : hn), k17 76 v1 v2 (N.1, N.2, rT c) = emv c (K17 v1 v2 N)) {v1 : Int32} {v2 : Int32} {v5 : Int64} {s0 : Int32} {s1 : Int32} {N : hn} : b_Md_cutAll_10 S0 k17 76 v1 v2 v5 s0 s1 78 (N.1, N.2, rT c) = emv c (B_Md_cutAll_10 c K17 v1 v2 v5 s0 s1 N) := by
  unfold b_Md_cutAll_10 B_Md_cutAll_10
  (simp only [hl_n, hl_wI, hl_wL, hl_cp, em_s, em_n, em_g, em_i, em_l, em_b, em_v, emv_s, emv_n, emv_g, emv_i, emv_l, emv_b, emv_v, hb_em, hv_em, hg_T, ne_eq, not_false_eq_true, nz_c, S0_c, S0_lw, S0_h, isHold_36, hc, hc.d, hc.l, hc.d.l, nz_1, nz_2, nz_3, nz_4, nz_5, nz_6, nz_7, nz_8, S0_76, ib_77, ib_78, ib_79, ib_80, q_Md_isDigit hc, q_Md_isLetter hc, q_Md_isSignOf hc, q_Md_rank hc, rT_76_1, rT_76_4, rT_76_5, rT_76_6, hk17, q_Md_cutAll_11 hc hk17]) <;> rfl
set_option maxRecDepth 100000 in
set_option maxHeartbeats 4000000 in
theorem q_Md_cutAll_9 {c : Nat} (hc : isChap c) {k17 : Nat → Int32 → Int32 → hm_M → Option hm_M} {K17 : Int32 → Int32 → hn → Option hn} (hk17 : ∀ (v1 : Int32) (v2 : Int32) (N : hn), k17 76 v1 v2 (N.1, N.2, rT c) = emv c (K17 v1 v2 N)) {v1 : Int32} {v2 : Int32} {v5 : Int64} {s0 : Int32} {s1 : Int32} {N : hn} : b_Md_cutAll_9 S0 k17 76 v1 v2 v5 s0 s1 78 (N.1, N.2, rT c) = emv c (B_Md_cutAll_9 c K17 v1 v2 v5 s0 s1 N) := by
  unfold b_Md_cutAll_9 B_Md_cutAll_9
  (simp only [hl_n, hl_wI, hl_wL, hl_cp, em_s, em_n, em_g, em_i, em_l, em_b, em_v, emv_s, emv_n, emv_g, emv_i, emv_l, emv_b, emv_v, hb_em, hv_em, hg_T, ne_eq, not_false_eq_true, nz_c, S0_c, S0_lw, S0_h, isHold_36, hc, hc.d, hc.l, hc.d.l, nz_1, nz_2, nz_3, nz_4, nz_5, nz_6, nz_7, nz_8, S0_76, ib_77, ib_78, ib_79, ib_80, q_Md_isDigit hc, q_Md_isLetter hc, q_Md_isSignOf hc, q_Md_rank hc, rT_76_1, rT_76_4, rT_76_5, rT_76_6, hk17, q_Md_cutAll_11 hc hk17, q_Md_cutAll_10 hc hk17]) <;> rfl
set_option maxRecDepth 100000 in
set_option maxHeartbeats 4000000 in
theorem q_Md_cutAll_8 {c : Nat} (hc : isChap c) {k17 : Nat → Int32 → Int32 → hm_M → Option hm_M} {K17 : Int32 → Int32 → hn → Option hn} (hk17 : ∀ (v1 : Int32) (v2 : Int32) (N : hn), k17 76 v1 v2 (N.1, N.2, rT c) = emv c (K17 v1 v2 N)) {v1 : Int32} {v2 : Int32} {v4 : Int32} {v5 : Int64} {N : hn} : b_Md_cutAll_8 S0 k17 76 v1 v2 v4 v5 (N.1, N.2, rT c) = emv c (B_Md_cutAll_8 c K17 v1 v2 v4 v5 N) := by
  unfold b_Md_cutAll_8 B_Md_cutAll_8
  (simp only [hl_n, hl_wI, hl_wL, hl_cp, em_s, em_n, em_g, em_i, em_l, em_b, em_v, emv_s, emv_n, emv_g, emv_i, emv_l, emv_b, emv_v, hb_em, hv_em, hg_T, ne_eq, not_false_eq_true, nz_c, S0_c, S0_lw, S0_h, isHold_36, hc, hc.d, hc.l, hc.d.l, nz_1, nz_2, nz_3, nz_4, nz_5, nz_6, nz_7, nz_8, S0_76, ib_77, ib_78, ib_79, ib_80, q_Md_isDigit hc, q_Md_isLetter hc, q_Md_isSignOf hc, q_Md_rank hc, rT_76_1, rT_76_4, rT_76_5, rT_76_6, hk17, q_Md_cutAll_11 hc hk17, q_Md_cutAll_10 hc hk17, q_Md_cutAll_9 hc hk17]) <;> rfl
set_option maxRecDepth 100000 in
set_option maxHeartbeats 4000000 in
theorem q_Md_cutAll_7 {c : Nat} (hc : isChap c) {k17 : Nat → Int32 → Int32 → hm_M → Option hm_M} {K17 : Int32 → Int32 → hn → Option hn} (hk17 : ∀ (v1 : Int32) (v2 : Int32) (N : hn), k17 76 v1 v2 (N.1, N.2, rT c) = emv c (K17 v1 v2 N)) {k159 : Nat → Int32 → Int32 → Int32 → Int64 → hm_M → Option hm_M} {K159 : Int32 → Int32 → Int32 → Int64 → hn → Option hn} (hk159 : ∀ (v1 : Int32) (v2 : Int32) (v4 : Int32) (v5 : Int64) (N : hn), k159 76 v1 v2 v4 v5 (N.1, N.2, rT c) = emv c (K159 v1 v2 v4 v5 N)) {v1 : Int32} {v2 : Int32} {v4 : Int32} {s0 : Int64} {N : hn} : b_Md_cutAll_7 S0 k17 k159 76 v1 v2 v4 s0 (N.1, N.2, rT c) = emv c (B_Md_cutAll_7 c K17 K159 v1 v2 v4 s0 N) := by
  unfold b_Md_cutAll_7 B_Md_cutAll_7
  (simp only [hl_n, hl_wI, hl_wL, hl_cp, em_s, em_n, em_g, em_i, em_l, em_b, em_v, emv_s, emv_n, emv_g, emv_i, emv_l, emv_b, emv_v, hb_em, hv_em, hg_T, ne_eq, not_false_eq_true, nz_c, S0_c, S0_lw, S0_h, isHold_36, hc, hc.d, hc.l, hc.d.l, nz_1, nz_2, nz_3, nz_4, nz_5, nz_6, nz_7, nz_8, S0_76, ib_77, ib_78, ib_79, ib_80, q_Md_isDigit hc, q_Md_isLetter hc, q_Md_isSignOf hc, q_Md_rank hc, rT_76_1, rT_76_4, rT_76_5, rT_76_6, hk17, hk159, q_Md_cutAll_11 hc hk17, q_Md_cutAll_10 hc hk17, q_Md_cutAll_9 hc hk17, q_Md_cutAll_8 hc hk17]) <;> rfl
set_option maxRecDepth 100000 in
set_option maxHeartbeats 4000000 in
theorem r_Md_cutAll_6 {c : Nat} (hc : isChap c) {k17 : Nat → Int32 → Int32 → hm_M → Option hm_M} {K17 : Int32 → Int32 → hn → Option hn} (hk17 : ∀ (v1 : Int32) (v2 : Int32) (N : hn), k17 76 v1 v2 (N.1, N.2, rT c) = emv c (K17 v1 v2 N)) {k159 : Nat → Int32 → Int32 → Int32 → Int64 → hm_M → Option hm_M} {K159 : Int32 → Int32 → Int32 → Int64 → hn → Option hn} (hk159 : ∀ (v1 : Int32) (v2 : Int32) (v4 : Int32) (v5 : Int64) (N : hn), k159 76 v1 v2 v4 v5 (N.1, N.2, rT c) = emv c (K159 v1 v2 v4 v5 N)) {v1 : Int32} {v2 : Int32} {v4 : Int32} {v5 : Int64} {N : hn} : b_Md_cutAll_6 S0 k17 k159 76 v1 v2 v4 v5 (N.1, N.2, rT c) = emv c (B_Md_cutAll_6 c K17 K159 v1 v2 v4 v5 N) := by
  unfold b_Md_cutAll_6 B_Md_cutAll_6
  (simp only [hl_n, hl_wI, hl_wL, hl_cp, em_s, em_n, em_g, em_i, em_l, em_b, em_v, emv_s, emv_n, emv_g, emv_i, emv_l, emv_b, emv_v, hb_em, hv_em, hg_T, ne_eq, not_false_eq_true, nz_c, S0_c, S0_lw, S0_h, isHold_36, hc, hc.d, hc.l, hc.d.l, nz_1, nz_2, nz_3, nz_4, nz_5, nz_6, nz_7, nz_8, S0_76, ib_77, ib_78, ib_79, ib_80, q_Md_isDigit hc, q_Md_isLetter hc, q_Md_isSignOf hc, q_Md_rank hc, rT_76_1, rT_76_4, rT_76_5, rT_76_6, hk17, hk159, q_Md_cutAll_11 hc hk17, q_Md_cutAll_10 hc hk17, q_Md_cutAll_9 hc hk17, q_Md_cutAll_8 hc hk17, q_Md_cutAll_7 hc hk17 hk159]) <;> rfl
theorem q_Md_cutAll_6 {c : Nat} (hc : isChap c) {k17 : Nat → Int32 → Int32 → hm_M → Option hm_M} {K17 : Int32 → Int32 → hn → Option hn} (hk17 : ∀ (v1 : Int32) (v2 : Int32) (N : hn), k17 76 v1 v2 (N.1, N.2, rT c) = emv c (K17 v1 v2 N)) : ∀ (n : Nat) (v1 : Int32) (v2 : Int32) (v4 : Int32) (v5 : Int64) (N : hn), f_Md_cutAll_6 S0 k17 n 76 v1 v2 v4 v5 (N.1, N.2, rT c) = emv c (F_Md_cutAll_6 c K17 n v1 v2 v4 v5 N) := by
  intro n
  induction n with
  | zero => intros; rfl
  | succ n ih => intro v1 v2 v4 v5 N ; exact r_Md_cutAll_6 hc hk17 ih 
set_option maxRecDepth 100000 in
set_option maxHeartbeats 4000000 in
theorem q_Md_cutAll_5 {c : Nat} (hc : isChap c) {k17 : Nat → Int32 → Int32 → hm_M → Option hm_M} {K17 : Int32 → Int32 → hn → Option hn} (hk17 : ∀ (v1 : Int32) (v2 : Int32) (N : hn), k17 76 v1 v2 (N.1, N.2, rT c) = emv c (K17 v1 v2 N)) {v1 : Int32} {v2 : Int32} {v5 : Int64} {s0 : Int32} {s1 : Int32} {N : hn} : b_Md_cutAll_5 S0 k17 76 v1 v2 v5 s0 s1 78 (N.1, N.2, rT c) = emv c (B_Md_cutAll_5 c K17 v1 v2 v5 s0 s1 N) := by
  unfold b_Md_cutAll_5 B_Md_cutAll_5
  (simp only [hl_n, hl_wI, hl_wL, hl_cp, em_s, em_n, em_g, em_i, em_l, em_b, em_v, emv_s, emv_n, emv_g, emv_i, emv_l, emv_b, emv_v, hb_em, hv_em, hg_T, ne_eq, not_false_eq_true, nz_c, S0_c, S0_lw, S0_h, isHold_36, hc, hc.d, hc.l, hc.d.l, nz_1, nz_2, nz_3, nz_4, nz_5, nz_6, nz_7, nz_8, S0_76, ib_77, ib_78, ib_79, ib_80, q_Md_isDigit hc, q_Md_isLetter hc, q_Md_isSignOf hc, q_Md_rank hc, rT_76_1, rT_76_4, rT_76_5, rT_76_6, hk17, q_Md_cutAll_11 hc hk17, q_Md_cutAll_10 hc hk17, q_Md_cutAll_9 hc hk17, q_Md_cutAll_8 hc hk17, q_Md_cutAll_6 hc hk17]) <;> rfl
set_option maxRecDepth 100000 in
set_option maxHeartbeats 4000000 in
theorem q_Md_cutAll_4 {c : Nat} (hc : isChap c) {k17 : Nat → Int32 → Int32 → hm_M → Option hm_M} {K17 : Int32 → Int32 → hn → Option hn} (hk17 : ∀ (v1 : Int32) (v2 : Int32) (N : hn), k17 76 v1 v2 (N.1, N.2, rT c) = emv c (K17 v1 v2 N)) {v1 : Int32} {v2 : Int32} {v4 : Int32} {v5 : Int64} {N : hn} : b_Md_cutAll_4 S0 k17 76 v1 v2 v4 v5 (N.1, N.2, rT c) = emv c (B_Md_cutAll_4 c K17 v1 v2 v4 v5 N) := by
  unfold b_Md_cutAll_4 B_Md_cutAll_4
  (simp only [hl_n, hl_wI, hl_wL, hl_cp, em_s, em_n, em_g, em_i, em_l, em_b, em_v, emv_s, emv_n, emv_g, emv_i, emv_l, emv_b, emv_v, hb_em, hv_em, hg_T, ne_eq, not_false_eq_true, nz_c, S0_c, S0_lw, S0_h, isHold_36, hc, hc.d, hc.l, hc.d.l, nz_1, nz_2, nz_3, nz_4, nz_5, nz_6, nz_7, nz_8, S0_76, ib_77, ib_78, ib_79, ib_80, q_Md_isDigit hc, q_Md_isLetter hc, q_Md_isSignOf hc, q_Md_rank hc, rT_76_1, rT_76_4, rT_76_5, rT_76_6, hk17, q_Md_cutAll_11 hc hk17, q_Md_cutAll_10 hc hk17, q_Md_cutAll_9 hc hk17, q_Md_cutAll_8 hc hk17, q_Md_cutAll_6 hc hk17, q_Md_cutAll_5 hc hk17]) <;> rfl
set_option maxRecDepth 100000 in
set_option maxHeartbeats 4000000 in
theorem q_Md_cutAll_3 {c : Nat} (hc : isChap c) {k17 : Nat → Int32 → Int32 → hm_M → Option hm_M} {K17 : Int32 → Int32 → hn → Option hn} (hk17 : ∀ (v1 : Int32) (v2 : Int32) (N : hn), k17 76 v1 v2 (N.1, N.2, rT c) = emv c (K17 v1 v2 N)) {k70 : Nat → Int32 → Int32 → Int32 → Int64 → hm_M → Option hm_M} {K70 : Int32 → Int32 → Int32 → Int64 → hn → Option hn} (hk70 : ∀ (v1 : Int32) (v2 : Int32) (v4 : Int32) (v5 : Int64) (N : hn), k70 76 v1 v2 v4 v5 (N.1, N.2, rT c) = emv c (K70 v1 v2 v4 v5 N)) {v1 : Int32} {v2 : Int32} {v4 : Int32} {s0 : Int64} {N : hn} : b_Md_cutAll_3 S0 k17 k70 76 v1 v2 v4 s0 (N.1, N.2, rT c) = emv c (B_Md_cutAll_3 c K17 K70 v1 v2 v4 s0 N) := by
  unfold b_Md_cutAll_3 B_Md_cutAll_3
  (simp only [hl_n, hl_wI, hl_wL, hl_cp, em_s, em_n, em_g, em_i, em_l, em_b, em_v, emv_s, emv_n, emv_g, emv_i, emv_l, emv_b, emv_v, hb_em, hv_em, hg_T, ne_eq, not_false_eq_true, nz_c, S0_c, S0_lw, S0_h, isHold_36, hc, hc.d, hc.l, hc.d.l, nz_1, nz_2, nz_3, nz_4, nz_5, nz_6, nz_7, nz_8, S0_76, ib_77, ib_78, ib_79, ib_80, q_Md_isDigit hc, q_Md_isLetter hc, q_Md_isSignOf hc, q_Md_rank hc, rT_76_1, rT_76_4, rT_76_5, rT_76_6, hk17, hk70, q_Md_cutAll_11 hc hk17, q_Md_cutAll_10 hc hk17, q_Md_cutAll_9 hc hk17, q_Md_cutAll_8 hc hk17, q_Md_cutAll_6 hc hk17, q_Md_cutAll_5 hc hk17, q_Md_cutAll_4 hc hk17]) <;> rfl
set_option maxRecDepth 100000 in
set_option maxHeartbeats 4000000 in
theorem r_Md_cutAll_2 {c : Nat} (hc : isChap c) {k17 : Nat → Int32 → Int32 → hm_M → Option hm_M} {K17 : Int32 → Int32 → hn → Option hn} (hk17 : ∀ (v1 : Int32) (v2 : Int32) (N : hn), k17 76 v1 v2 (N.1, N.2, rT c) = emv c (K17 v1 v2 N)) {k70 : Nat → Int32 → Int32 → Int32 → Int64 → hm_M → Option hm_M} {K70 : Int32 → Int32 → Int32 → Int64 → hn → Option hn} (hk70 : ∀ (v1 : Int32) (v2 : Int32) (v4 : Int32) (v5 : Int64) (N : hn), k70 76 v1 v2 v4 v5 (N.1, N.2, rT c) = emv c (K70 v1 v2 v4 v5 N)) {v1 : Int32} {v2 : Int32} {v4 : Int32} {v5 : Int64} {N : hn} : b_Md_cutAll_2 S0 k17 k70 76 v1 v2 v4 v5 (N.1, N.2, rT c) = emv c (B_Md_cutAll_2 c K17 K70 v1 v2 v4 v5 N) := by
  unfold b_Md_cutAll_2 B_Md_cutAll_2
  (simp only [hl_n, hl_wI, hl_wL, hl_cp, em_s, em_n, em_g, em_i, em_l, em_b, em_v, emv_s, emv_n, emv_g, emv_i, emv_l, emv_b, emv_v, hb_em, hv_em, hg_T, ne_eq, not_false_eq_true, nz_c, S0_c, S0_lw, S0_h, isHold_36, hc, hc.d, hc.l, hc.d.l, nz_1, nz_2, nz_3, nz_4, nz_5, nz_6, nz_7, nz_8, S0_76, ib_77, ib_78, ib_79, ib_80, q_Md_isDigit hc, q_Md_isLetter hc, q_Md_isSignOf hc, q_Md_rank hc, rT_76_1, rT_76_4, rT_76_5, rT_76_6, hk17, hk70, q_Md_cutAll_11 hc hk17, q_Md_cutAll_10 hc hk17, q_Md_cutAll_9 hc hk17, q_Md_cutAll_8 hc hk17, q_Md_cutAll_6 hc hk17, q_Md_cutAll_5 hc hk17, q_Md_cutAll_4 hc hk17, q_Md_cutAll_3 hc hk17 hk70]) <;> rfl
theorem q_Md_cutAll_2 {c : Nat} (hc : isChap c) {k17 : Nat → Int32 → Int32 → hm_M → Option hm_M} {K17 : Int32 → Int32 → hn → Option hn} (hk17 : ∀ (v1 : Int32) (v2 : Int32) (N : hn), k17 76 v1 v2 (N.1, N.2, rT c) = emv c (K17 v1 v2 N)) : ∀ (n : Nat) (v1 : Int32) (v2 : Int32) (v4 : Int32) (v5 : Int64) (N : hn), f_Md_cutAll_2 S0 k17 n 76 v1 v2 v4 v5 (N.1, N.2, rT c) = emv c (F_Md_cutAll_2 c K17 n v1 v2 v4 v5 N) := by
  intro n
  induction n with
  | zero => intros; rfl
  | succ n ih => intro v1 v2 v4 v5 N ; exact r_Md_cutAll_2 hc hk17 ih 
set_option maxRecDepth 100000 in
set_option maxHeartbeats 4000000 in
theorem r_Md_cutAll_1 {c : Nat} (hc : isChap c) {k17 : Nat → Int32 → Int32 → hm_M → Option hm_M} {K17 : Int32 → Int32 → hn → Option hn} (hk17 : ∀ (v1 : Int32) (v2 : Int32) (N : hn), k17 76 v1 v2 (N.1, N.2, rT c) = emv c (K17 v1 v2 N)) {v1 : Int32} {v2 : Int32} {N : hn} : b_Md_cutAll_1 S0 k17 76 v1 v2 (N.1, N.2, rT c) = emv c (B_Md_cutAll_1 c K17 v1 v2 N) := by
  unfold b_Md_cutAll_1 B_Md_cutAll_1
  (simp only [hl_n, hl_wI, hl_wL, hl_cp, em_s, em_n, em_g, em_i, em_l, em_b, em_v, emv_s, emv_n, emv_g, emv_i, emv_l, emv_b, emv_v, hb_em, hv_em, hg_T, ne_eq, not_false_eq_true, nz_c, S0_c, S0_lw, S0_h, isHold_36, hc, hc.d, hc.l, hc.d.l, nz_1, nz_2, nz_3, nz_4, nz_5, nz_6, nz_7, nz_8, S0_76, ib_77, ib_78, ib_79, ib_80, q_Md_isDigit hc, q_Md_isLetter hc, q_Md_isSignOf hc, q_Md_rank hc, rT_76_1, rT_76_4, rT_76_5, rT_76_6, hk17, q_Md_cutAll_11 hc hk17, q_Md_cutAll_10 hc hk17, q_Md_cutAll_9 hc hk17, q_Md_cutAll_8 hc hk17, q_Md_cutAll_6 hc hk17, q_Md_cutAll_5 hc hk17, q_Md_cutAll_4 hc hk17, q_Md_cutAll_2 hc hk17]) <;> rfl
theorem q_Md_cutAll_1 {c : Nat} (hc : isChap c) : ∀ (n : Nat) (v1 : Int32) (v2 : Int32) (N : hn), f_Md_cutAll_1 S0 n 76 v1 v2 (N.1, N.2, rT c) = emv c (F_Md_cutAll_1 c n v1 v2 N) := by
  intro n
  induction n with
  | zero => intros; rfl
  | succ n ih => intro v1 v2 N ; exact r_Md_cutAll_1 hc  ih 
set_option maxRecDepth 100000 in
set_option maxHeartbeats 4000000 in
theorem q_Md_cutAll {c : Nat} (hc : isChap c) {N : hn} : f_Md_cutAll S0 76 (N.1, N.2, rT c) = emv c (F_Md_cutAll c N) := by
  unfold f_Md_cutAll F_Md_cutAll
  (simp only [hl_n, hl_wI, hl_wL, hl_cp, em_s, em_n, em_g, em_i, em_l, em_b, em_v, emv_s, emv_n, emv_g, emv_i, emv_l, emv_b, emv_v, hb_em, hv_em, hg_T, ne_eq, not_false_eq_true, nz_c, S0_c, S0_lw, S0_h, isHold_36, hc, hc.d, hc.l, hc.d.l, nz_1, nz_2, nz_3, nz_4, nz_5, nz_6, nz_7, nz_8, S0_76, ib_77, ib_78, ib_79, ib_80, q_Md_isDigit hc, q_Md_isLetter hc, q_Md_isSignOf hc, q_Md_rank hc, rT_76_1, rT_76_4, rT_76_5, rT_76_6, q_Md_cutAll_1 hc]) <;> rfl
set_option maxRecDepth 100000 in
set_option maxHeartbeats 4000000 in
theorem q_Md_wrong {c : Nat} (hc : isChap c) {v1 : Int32} {N : hn} : f_Md_wrong S0 76 v1 (N.1, N.2, rT c) = emv c (F_Md_wrong c v1 N) := by
  unfold f_Md_wrong F_Md_wrong
  (simp only [hl_n, hl_wI, hl_wL, hl_cp, em_s, em_n, em_g, em_i, em_l, em_b, em_v, emv_s, emv_n, emv_g, emv_i, emv_l, emv_b, emv_v, hb_em, hv_em, hg_T, ne_eq, not_false_eq_true, nz_c, S0_c, S0_lw, S0_h, isHold_36, hc, hc.d, hc.l, hc.d.l, nz_1, nz_2, nz_3, nz_4, nz_5, nz_6, nz_7, nz_8, S0_76, ib_79, rT_76_5]) <;> rfl
set_option maxRecDepth 100000 in
set_option maxHeartbeats 4000000 in
theorem q_Md_takeNumber_3 {c : Nat} (hc : isChap c) {N : hn} : b_Md_takeNumber_3 S0 76 (N.1, N.2, rT c) = em c (B_Md_takeNumber_3 c N) := by
  unfold b_Md_takeNumber_3 B_Md_takeNumber_3
  (simp only [hl_n, hl_wI, hl_wL, hl_cp, em_s, em_n, em_g, em_i, em_l, em_b, em_v, emv_s, emv_n, emv_g, emv_i, emv_l, emv_b, emv_v, hb_em, hv_em, hg_T, ne_eq, not_false_eq_true, nz_c, S0_c, S0_lw, S0_h, isHold_36, hc, hc.d, hc.l, hc.d.l, nz_1, nz_2, nz_3, nz_4, nz_5, nz_6, nz_7, nz_8, S0_76, ib_78, ib_80, q_Md_wrong hc, rT_76_4, rT_76_6]) <;> rfl
set_option maxRecDepth 100000 in
set_option maxHeartbeats 4000000 in
theorem q_Md_takeNumber_2 {c : Nat} (hc : isChap c) {N : hn} : b_Md_takeNumber_2 S0 76 (N.1, N.2, rT c) = em c (B_Md_takeNumber_2 c N) := by
  unfold b_Md_takeNumber_2 B_Md_takeNumber_2
  (simp only [hl_n, hl_wI, hl_wL, hl_cp, em_s, em_n, em_g, em_i, em_l, em_b, em_v, emv_s, emv_n, emv_g, emv_i, emv_l, emv_b, emv_v, hb_em, hv_em, hg_T, ne_eq, not_false_eq_true, nz_c, S0_c, S0_lw, S0_h, isHold_36, hc, hc.d, hc.l, hc.d.l, nz_1, nz_2, nz_3, nz_4, nz_5, nz_6, nz_7, nz_8, S0_76, ib_78, ib_80, q_Md_wrong hc, rT_76_4, rT_76_6, q_Md_takeNumber_3 hc]) <;> rfl
set_option maxRecDepth 100000 in
set_option maxHeartbeats 4000000 in
theorem q_Md_takeNumber_1 {c : Nat} (hc : isChap c) {v1 : Int32} {v2 : Int32} {N : hn} : b_Md_takeNumber_1 S0 76 v1 v2 (N.1, N.2, rT c) = em c (B_Md_takeNumber_1 c v1 v2 N) := by
  unfold b_Md_takeNumber_1 B_Md_takeNumber_1
  (simp only [hl_n, hl_wI, hl_wL, hl_cp, em_s, em_n, em_g, em_i, em_l, em_b, em_v, emv_s, emv_n, emv_g, emv_i, emv_l, emv_b, emv_v, hb_em, hv_em, hg_T, ne_eq, not_false_eq_true, nz_c, S0_c, S0_lw, S0_h, isHold_36, hc, hc.d, hc.l, hc.d.l, nz_1, nz_2, nz_3, nz_4, nz_5, nz_6, nz_7, nz_8, S0_76, ib_78, ib_80, q_Md_wrong hc, rT_76_4, rT_76_6, q_Md_takeNumber_3 hc, q_Md_takeNumber_2 hc]) <;> rfl
set_option maxRecDepth 100000 in
set_option maxHeartbeats 4000000 in
theorem q_Md_takeNumber {c : Nat} (hc : isChap c) {v1 : Int32} {v2 : Int32} {N : hn} : f_Md_takeNumber S0 76 v1 v2 (N.1, N.2, rT c) = em c (F_Md_takeNumber c v1 v2 N) := by
  unfold f_Md_takeNumber F_Md_takeNumber
  (simp only [hl_n, hl_wI, hl_wL, hl_cp, em_s, em_n, em_g, em_i, em_l, em_b, em_v, emv_s, emv_n, emv_g, emv_i, emv_l, emv_b, emv_v, hb_em, hv_em, hg_T, ne_eq, not_false_eq_true, nz_c, S0_c, S0_lw, S0_h, isHold_36, hc, hc.d, hc.l, hc.d.l, nz_1, nz_2, nz_3, nz_4, nz_5, nz_6, nz_7, nz_8, S0_76, ib_78, ib_80, q_Md_wrong hc, rT_76_4, rT_76_6, q_Md_takeNumber_1 hc, q_Md_takeNumber_2 hc, q_Md_takeNumber_3 hc]) <;> rfl
set_option maxRecDepth 100000 in
set_option maxHeartbeats 4000000 in
theorem q_Md_readFloor {c : Nat} (hc : isChap c) {N : hn} : f_Md_readFloor S0 76 (N.1, N.2, rT c) = emv c (F_Md_readFloor c N) := by
  unfold f_Md_readFloor F_Md_readFloor
  (simp only [hl_n, hl_wI, hl_wL, hl_cp, em_s, em_n, em_g, em_i, em_l, em_b, em_v, emv_s, emv_n, emv_g, emv_i, emv_l, emv_b, emv_v, hb_em, hv_em, hg_T, ne_eq, not_false_eq_true, nz_c, S0_c, S0_lw, S0_h, isHold_36, hc, hc.d, hc.l, hc.d.l, nz_1, nz_2, nz_3, nz_4, nz_5, nz_6, nz_7, nz_8, S0_76, ib_82, q_Md_takeNumber hc, q_Md_wrong hc, rT_76_10]) <;> rfl
set_option maxRecDepth 100000 in
set_option maxHeartbeats 4000000 in
theorem q_Md_isName_5 {c : Nat} (hc : isChap c) {k28 : Nat → Int32 → Int32 → hm_M → Option (Int32 × hm_M)} {K28 : Int32 → Int32 → hn → Option (Int32 × hn)} (hk28 : ∀ (v1 : Int32) (v2 : Int32) (N : hn), k28 76 v1 v2 (N.1, N.2, rT c) = em c (K28 v1 v2 N)) {v2 : Int32} {s0 : Int32} {N : hn} : b_Md_isName_5 S0 k28 76 v2 s0 (N.1, N.2, rT c) = em c (B_Md_isName_5 c K28 v2 s0 N) := by
  unfold b_Md_isName_5 B_Md_isName_5
  (simp only [hl_n, hl_wI, hl_wL, hl_cp, em_s, em_n, em_g, em_i, em_l, em_b, em_v, emv_s, emv_n, emv_g, emv_i, emv_l, emv_b, emv_v, hb_em, hv_em, hg_T, ne_eq, not_false_eq_true, nz_c, S0_c, S0_lw, S0_h, isHold_36, hc, hc.d, hc.l, hc.d.l, nz_1, nz_2, nz_3, nz_4, nz_5, nz_6, nz_7, nz_8, S0_76, ib_78, ib_80, ib_81, rT_76_4, rT_76_6, rT_76_9, hk28]) <;> rfl
set_option maxRecDepth 100000 in
set_option maxHeartbeats 4000000 in
theorem q_Md_isName_4 {c : Nat} (hc : isChap c) {k28 : Nat → Int32 → Int32 → hm_M → Option (Int32 × hm_M)} {K28 : Int32 → Int32 → hn → Option (Int32 × hn)} (hk28 : ∀ (v1 : Int32) (v2 : Int32) (N : hn), k28 76 v1 v2 (N.1, N.2, rT c) = em c (K28 v1 v2 N)) {v2 : Int32} {N : hn} : b_Md_isName_4 S0 k28 76 v2 (N.1, N.2, rT c) = em c (B_Md_isName_4 c K28 v2 N) := by
  unfold b_Md_isName_4 B_Md_isName_4
  (simp only [hl_n, hl_wI, hl_wL, hl_cp, em_s, em_n, em_g, em_i, em_l, em_b, em_v, emv_s, emv_n, emv_g, emv_i, emv_l, emv_b, emv_v, hb_em, hv_em, hg_T, ne_eq, not_false_eq_true, nz_c, S0_c, S0_lw, S0_h, isHold_36, hc, hc.d, hc.l, hc.d.l, nz_1, nz_2, nz_3, nz_4, nz_5, nz_6, nz_7, nz_8, S0_76, ib_78, ib_80, ib_81, rT_76_4, rT_76_6, rT_76_9, hk28, q_Md_isName_5 hc hk28]) <;> rfl
set_option maxRecDepth 100000 in
set_option maxHeartbeats 4000000 in
theorem r_Md_isName_3 {c : Nat} (hc : isChap c) {k28 : Nat → Int32 → Int32 → hm_M → Option (Int32 × hm_M)} {K28 : Int32 → Int32 → hn → Option (Int32 × hn)} (hk28 : ∀ (v1 : Int32) (v2 : Int32) (N : hn), k28 76 v1 v2 (N.1, N.2, rT c) = em c (K28 v1 v2 N)) {v1 : Int32} {v2 : Int32} {N : hn} : b_Md_isName_3 S0 k28 76 v1 v2 (N.1, N.2, rT c) = em c (B_Md_isName_3 c K28 v1 v2 N) := by
  unfold b_Md_isName_3 B_Md_isName_3
  (simp only [hl_n, hl_wI, hl_wL, hl_cp, em_s, em_n, em_g, em_i, em_l, em_b, em_v, emv_s, emv_n, emv_g, emv_i, emv_l, emv_b, emv_v, hb_em, hv_em, hg_T, ne_eq, not_false_eq_true, nz_c, S0_c, S0_lw, S0_h, isHold_36, hc, hc.d, hc.l, hc.d.l, nz_1, nz_2, nz_3, nz_4, nz_5, nz_6, nz_7, nz_8, S0_76, ib_78, ib_80, ib_81, rT_76_4, rT_76_6, rT_76_9, hk28, q_Md_isName_5 hc hk28, q_Md_isName_4 hc hk28]) <;> rfl
theorem q_Md_isName_3 {c : Nat} (hc : isChap c) : ∀ (n : Nat) (v1 : Int32) (v2 : Int32) (N : hn), f_Md_isName_3 S0 n 76 v1 v2 (N.1, N.2, rT c) = em c (F_Md_isName_3 c n v1 v2 N) := by
  intro n
  induction n with
  | zero => intros; rfl
  | succ n ih => intro v1 v2 N ; exact r_Md_isName_3 hc  ih 
set_option maxRecDepth 100000 in
set_option maxHeartbeats 4000000 in
theorem q_Md_isName_2 {c : Nat} (hc : isChap c) {s0 : Int32} {N : hn} : b_Md_isName_2 S0 76 s0 (N.1, N.2, rT c) = em c (B_Md_isName_2 c s0 N) := by
  unfold b_Md_isName_2 B_Md_isName_2
  (simp only [hl_n, hl_wI, hl_wL, hl_cp, em_s, em_n, em_g, em_i, em_l, em_b, em_v, emv_s, emv_n, emv_g, emv_i, emv_l, emv_b, emv_v, hb_em, hv_em, hg_T, ne_eq, not_false_eq_true, nz_c, S0_c, S0_lw, S0_h, isHold_36, hc, hc.d, hc.l, hc.d.l, nz_1, nz_2, nz_3, nz_4, nz_5, nz_6, nz_7, nz_8, S0_76, ib_78, ib_80, ib_81, rT_76_4, rT_76_6, rT_76_9, q_Md_isName_3 hc]) <;> rfl
set_option maxRecDepth 100000 in
set_option maxHeartbeats 4000000 in
theorem q_Md_isName_1 {c : Nat} (hc : isChap c) {N : hn} : b_Md_isName_1 S0 76 (N.1, N.2, rT c) = em c (B_Md_isName_1 c N) := by
  unfold b_Md_isName_1 B_Md_isName_1
  (simp only [hl_n, hl_wI, hl_wL, hl_cp, em_s, em_n, em_g, em_i, em_l, em_b, em_v, emv_s, emv_n, emv_g, emv_i, emv_l, emv_b, emv_v, hb_em, hv_em, hg_T, ne_eq, not_false_eq_true, nz_c, S0_c, S0_lw, S0_h, isHold_36, hc, hc.d, hc.l, hc.d.l, nz_1, nz_2, nz_3, nz_4, nz_5, nz_6, nz_7, nz_8, S0_76, ib_78, ib_80, ib_81, rT_76_4, rT_76_6, rT_76_9, q_Md_isName_3 hc, q_Md_isName_2 hc]) <;> rfl
set_option maxRecDepth 100000 in
set_option maxHeartbeats 4000000 in
theorem q_Md_isName {c : Nat} (hc : isChap c) {N : hn} : f_Md_isName S0 76 (N.1, N.2, rT c) = em c (F_Md_isName c N) := by
  unfold f_Md_isName F_Md_isName
  (simp only [hl_n, hl_wI, hl_wL, hl_cp, em_s, em_n, em_g, em_i, em_l, em_b, em_v, emv_s, emv_n, emv_g, emv_i, emv_l, emv_b, emv_v, hb_em, hv_em, hg_T, ne_eq, not_false_eq_true, nz_c, S0_c, S0_lw, S0_h, isHold_36, hc, hc.d, hc.l, hc.d.l, nz_1, nz_2, nz_3, nz_4, nz_5, nz_6, nz_7, nz_8, S0_76, ib_78, ib_80, ib_81, rT_76_4, rT_76_6, rT_76_9, q_Md_isName_1 hc, q_Md_isName_2 hc, q_Md_isName_3 hc]) <;> rfl
set_option maxRecDepth 100000 in
set_option maxHeartbeats 4000000 in
theorem r_Md_find_1 {c : Nat} (hc : isChap c) {k2 : Nat → Int32 → hm_M → Option (Int32 × hm_M)} {K2 : Int32 → hn → Option (Int32 × hn)} (hk2 : ∀ (v1 : Int32) (N : hn), k2 76 v1 (N.1, N.2, rT c) = em c (K2 v1 N)) {v1 : Int32} {N : hn} : b_Md_find_1 S0 k2 76 v1 (N.1, N.2, rT c) = em c (B_Md_find_1 c K2 v1 N) := by
  unfold b_Md_find_1 B_Md_find_1
  (simp only [hl_n, hl_wI, hl_wL, hl_cp, em_s, em_n, em_g, em_i, em_l, em_b, em_v, emv_s, emv_n, emv_g, emv_i, emv_l, emv_b, emv_v, hb_em, hv_em, hg_T, ne_eq, not_false_eq_true, nz_c, S0_c, S0_lw, S0_h, isHold_36, hc, hc.d, hc.l, hc.d.l, nz_1, nz_2, nz_3, nz_4, nz_5, nz_6, nz_7, nz_8, S0_76, ib_80, ib_82, ib_85, rT_76_10, rT_76_14, rT_76_6, hk2]) <;> rfl
theorem q_Md_find_1 {c : Nat} (hc : isChap c) : ∀ (n : Nat) (v1 : Int32) (N : hn), f_Md_find_1 S0 n 76 v1 (N.1, N.2, rT c) = em c (F_Md_find_1 c n v1 N) := by
  intro n
  induction n with
  | zero => intros; rfl
  | succ n ih => intro v1 N ; exact r_Md_find_1 hc  ih 
set_option maxRecDepth 100000 in
set_option maxHeartbeats 4000000 in
theorem q_Md_find {c : Nat} (hc : isChap c) {N : hn} : f_Md_find S0 76 (N.1, N.2, rT c) = em c (F_Md_find c N) := by
  unfold f_Md_find F_Md_find
  (simp only [hl_n, hl_wI, hl_wL, hl_cp, em_s, em_n, em_g, em_i, em_l, em_b, em_v, emv_s, emv_n, emv_g, emv_i, emv_l, emv_b, emv_v, hb_em, hv_em, hg_T, ne_eq, not_false_eq_true, nz_c, S0_c, S0_lw, S0_h, isHold_36, hc, hc.d, hc.l, hc.d.l, nz_1, nz_2, nz_3, nz_4, nz_5, nz_6, nz_7, nz_8, S0_76, ib_80, ib_82, ib_85, rT_76_10, rT_76_14, rT_76_6, q_Md_find_1 hc]) <;> rfl
set_option maxRecDepth 100000 in
set_option maxHeartbeats 4000000 in
theorem q_Md_hasWord_1 {c : Nat} (hc : isChap c) {v2 : Int32} {s0 : Int32} {s1 : Int32} {N : hn} : b_Md_hasWord_1 S0 v2 s0 s1 76 (N.1, N.2, rT c) = em c (B_Md_hasWord_1 c v2 s0 s1 N) := by
  unfold b_Md_hasWord_1 B_Md_hasWord_1
  (simp only [hl_n, hl_wI, hl_wL, hl_cp, em_s, em_n, em_g, em_i, em_l, em_b, em_v, emv_s, emv_n, emv_g, emv_i, emv_l, emv_b, emv_v, hb_em, hv_em, hg_T, ne_eq, not_false_eq_true, nz_c, S0_c, S0_lw, S0_h, isHold_36, hc, hc.d, hc.l, hc.d.l, nz_1, nz_2, nz_3, nz_4, nz_5, nz_6, nz_7, nz_8, S0_76, q_Md_isWord hc]) <;> rfl
set_option maxRecDepth 100000 in
set_option maxHeartbeats 4000000 in
theorem q_Md_hasWord {c : Nat} (hc : isChap c) {v1 : Int32} {N : hn} : f_Md_hasWord S0 76 v1 (N.1, N.2, rT c) = em c (F_Md_hasWord c v1 N) := by
  unfold f_Md_hasWord F_Md_hasWord
  (simp only [hl_n, hl_wI, hl_wL, hl_cp, em_s, em_n, em_g, em_i, em_l, em_b, em_v, emv_s, emv_n, emv_g, emv_i, emv_l, emv_b, emv_v, hb_em, hv_em, hg_T, ne_eq, not_false_eq_true, nz_c, S0_c, S0_lw, S0_h, isHold_36, hc, hc.d, hc.l, hc.d.l, nz_1, nz_2, nz_3, nz_4, nz_5, nz_6, nz_7, nz_8, S0_76, q_Md_isWord hc, q_Md_hasWord_1 hc]) <;> rfl
set_option maxRecDepth 100000 in
set_option maxHeartbeats 4000000 in
theorem q_Md_takeWord {c : Nat} (hc : isChap c) {v1 : Int32} {N : hn} : f_Md_takeWord S0 76 v1 (N.1, N.2, rT c) = emv c (F_Md_takeWord c v1 N) := by
  unfold f_Md_takeWord F_Md_takeWord
  (simp only [hl_n, hl_wI, hl_wL, hl_cp, em_s, em_n, em_g, em_i, em_l, em_b, em_v, emv_s, emv_n, emv_g, emv_i, emv_l, emv_b, emv_v, hb_em, hv_em, hg_T, ne_eq, not_false_eq_true, nz_c, S0_c, S0_lw, S0_h, isHold_36, hc, hc.d, hc.l, hc.d.l, nz_1, nz_2, nz_3, nz_4, nz_5, nz_6, nz_7, nz_8, S0_76, q_Md_hasWord hc, q_Md_wrong hc]) <;> rfl
set_option maxRecDepth 100000 in
set_option maxHeartbeats 4000000 in
theorem q_Md_takeAfter {c : Nat} (hc : isChap c) {v1 : Int32} {v2 : Int32} {v3 : Int32} {N : hn} : f_Md_takeAfter S0 76 v1 v2 v3 (N.1, N.2, rT c) = em c (F_Md_takeAfter c v1 v2 v3 N) := by
  unfold f_Md_takeAfter F_Md_takeAfter
  (simp only [hl_n, hl_wI, hl_wL, hl_cp, em_s, em_n, em_g, em_i, em_l, em_b, em_v, emv_s, emv_n, emv_g, emv_i, emv_l, emv_b, emv_v, hb_em, hv_em, hg_T, ne_eq, not_false_eq_true, nz_c, S0_c, S0_lw, S0_h, isHold_36, hc, hc.d, hc.l, hc.d.l, nz_1, nz_2, nz_3, nz_4, nz_5, nz_6, nz_7, nz_8, S0_76, q_Md_takeNumber hc, q_Md_takeWord hc]) <;> rfl
set_option maxRecDepth 100000 in
set_option maxHeartbeats 4000000 in
theorem q_Md_readGuild_1 {c : Nat} (hc : isChap c) {v1 : Int32} {N : hn} : b_Md_readGuild_1 S0 76 v1 (N.1, N.2, rT c) = emv c (B_Md_readGuild_1 c v1 N) := by
  unfold b_Md_readGuild_1 B_Md_readGuild_1
  (simp only [hl_n, hl_wI, hl_wL, hl_cp, em_s, em_n, em_g, em_i, em_l, em_b, em_v, emv_s, emv_n, emv_g, emv_i, emv_l, emv_b, emv_v, hb_em, hv_em, hg_T, ne_eq, not_false_eq_true, nz_c, S0_c, S0_lw, S0_h, isHold_36, hc, hc.d, hc.l, hc.d.l, nz_1, nz_2, nz_3, nz_4, nz_5, nz_6, nz_7, nz_8, S0_76, ib_80, ib_82, ib_85, q_Md_find hc, q_Md_isName hc, q_Md_takeAfter hc, q_Md_wrong hc, rT_76_10, rT_76_14, rT_76_6]) <;> rfl
set_option maxRecDepth 100000 in
set_option maxHeartbeats 4000000 in
theorem q_Md_readGuild {c : Nat} (hc : isChap c) {N : hn} : f_Md_readGuild S0 76 (N.1, N.2, rT c) = emv c (F_Md_readGuild c N) := by
  unfold f_Md_readGuild F_Md_readGuild
  (simp only [hl_n, hl_wI, hl_wL, hl_cp, em_s, em_n, em_g, em_i, em_l, em_b, em_v, emv_s, emv_n, emv_g, emv_i, emv_l, emv_b, emv_v, hb_em, hv_em, hg_T, ne_eq, not_false_eq_true, nz_c, S0_c, S0_lw, S0_h, isHold_36, hc, hc.d, hc.l, hc.d.l, nz_1, nz_2, nz_3, nz_4, nz_5, nz_6, nz_7, nz_8, S0_76, ib_80, ib_82, ib_85, q_Md_find hc, q_Md_isName hc, q_Md_takeAfter hc, q_Md_wrong hc, rT_76_10, rT_76_14, rT_76_6, q_Md_readGuild_1 hc]) <;> rfl
set_option maxRecDepth 100000 in
set_option maxHeartbeats 4000000 in
theorem q_Md_readPane_4 {c : Nat} (hc : isChap c) {v2 : Int32} {N : hn} : b_Md_readPane_4 S0 76 v2 (N.1, N.2, rT c) = emv c (B_Md_readPane_4 c v2 N) := by
  unfold b_Md_readPane_4 B_Md_readPane_4
  (simp only [hl_n, hl_wI, hl_wL, hl_cp, em_s, em_n, em_g, em_i, em_l, em_b, em_v, emv_s, emv_n, emv_g, emv_i, emv_l, emv_b, emv_v, hb_em, hv_em, hg_T, ne_eq, not_false_eq_true, nz_c, S0_c, S0_lw, S0_h, isHold_36, hc, hc.d, hc.l, hc.d.l, nz_1, nz_2, nz_3, nz_4, nz_5, nz_6, nz_7, nz_8, S0_76, ib_78, ib_80, ib_82, q_Md_find hc, q_Md_isName hc, q_Md_takeAfter hc, q_Md_takeNumber hc, q_Md_takeWord hc, q_Md_wrong hc, rT_76_10, rT_76_4, rT_76_6]) <;> rfl
set_option maxRecDepth 100000 in
set_option maxHeartbeats 4000000 in
theorem q_Md_readPane_3 {c : Nat} (hc : isChap c) {v2 : Int32} {N : hn} : b_Md_readPane_3 S0 76 v2 (N.1, N.2, rT c) = emv c (B_Md_readPane_3 c v2 N) := by
  unfold b_Md_readPane_3 B_Md_readPane_3
  (simp only [hl_n, hl_wI, hl_wL, hl_cp, em_s, em_n, em_g, em_i, em_l, em_b, em_v, emv_s, emv_n, emv_g, emv_i, emv_l, emv_b, emv_v, hb_em, hv_em, hg_T, ne_eq, not_false_eq_true, nz_c, S0_c, S0_lw, S0_h, isHold_36, hc, hc.d, hc.l, hc.d.l, nz_1, nz_2, nz_3, nz_4, nz_5, nz_6, nz_7, nz_8, S0_76, ib_78, ib_80, ib_82, q_Md_find hc, q_Md_isName hc, q_Md_takeAfter hc, q_Md_takeNumber hc, q_Md_takeWord hc, q_Md_wrong hc, rT_76_10, rT_76_4, rT_76_6, q_Md_readPane_4 hc]) <;> rfl
set_option maxRecDepth 100000 in
set_option maxHeartbeats 4000000 in
theorem q_Md_readPane_2 {c : Nat} (hc : isChap c) {v2 : Int32} {N : hn} : b_Md_readPane_2 S0 76 v2 (N.1, N.2, rT c) = emv c (B_Md_readPane_2 c v2 N) := by
  unfold b_Md_readPane_2 B_Md_readPane_2
  (simp only [hl_n, hl_wI, hl_wL, hl_cp, em_s, em_n, em_g, em_i, em_l, em_b, em_v, emv_s, emv_n, emv_g, emv_i, emv_l, emv_b, emv_v, hb_em, hv_em, hg_T, ne_eq, not_false_eq_true, nz_c, S0_c, S0_lw, S0_h, isHold_36, hc, hc.d, hc.l, hc.d.l, nz_1, nz_2, nz_3, nz_4, nz_5, nz_6, nz_7, nz_8, S0_76, ib_78, ib_80, ib_82, q_Md_find hc, q_Md_isName hc, q_Md_takeAfter hc, q_Md_takeNumber hc, q_Md_takeWord hc, q_Md_wrong hc, rT_76_10, rT_76_4, rT_76_6, q_Md_readPane_4 hc, q_Md_readPane_3 hc]) <;> rfl
set_option maxRecDepth 100000 in
set_option maxHeartbeats 4000000 in
theorem r_Md_readPane_1 {c : Nat} (hc : isChap c) {k52 : Nat → Int32 → Int32 → Int32 → hm_M → Option hm_M} {K52 : Int32 → Int32 → Int32 → hn → Option hn} (hk52 : ∀ (v1 : Int32) (v2 : Int32) (v3 : Int32) (N : hn), k52 76 v1 v2 v3 (N.1, N.2, rT c) = emv c (K52 v1 v2 v3 N)) {v1 : Int32} {v2 : Int32} {v3 : Int32} {N : hn} : b_Md_readPane_1 S0 k52 76 v1 v2 v3 (N.1, N.2, rT c) = emv c (B_Md_readPane_1 c K52 v1 v2 v3 N) := by
  unfold b_Md_readPane_1 B_Md_readPane_1
  (simp only [hl_n, hl_wI, hl_wL, hl_cp, em_s, em_n, em_g, em_i, em_l, em_b, em_v, emv_s, emv_n, emv_g, emv_i, emv_l, emv_b, emv_v, hb_em, hv_em, hg_T, ne_eq, not_false_eq_true, nz_c, S0_c, S0_lw, S0_h, isHold_36, hc, hc.d, hc.l, hc.d.l, nz_1, nz_2, nz_3, nz_4, nz_5, nz_6, nz_7, nz_8, S0_76, ib_78, ib_80, ib_82, q_Md_find hc, q_Md_isName hc, q_Md_takeAfter hc, q_Md_takeNumber hc, q_Md_takeWord hc, q_Md_wrong hc, rT_76_10, rT_76_4, rT_76_6, hk52, q_Md_readPane_4 hc, q_Md_readPane_3 hc, q_Md_readPane_2 hc]) <;> rfl
theorem q_Md_readPane_1 {c : Nat} (hc : isChap c) : ∀ (n : Nat) (v1 : Int32) (v2 : Int32) (v3 : Int32) (N : hn), f_Md_readPane_1 S0 n 76 v1 v2 v3 (N.1, N.2, rT c) = emv c (F_Md_readPane_1 c n v1 v2 v3 N) := by
  intro n
  induction n with
  | zero => intros; rfl
  | succ n ih => intro v1 v2 v3 N ; exact r_Md_readPane_1 hc  ih 
set_option maxRecDepth 100000 in
set_option maxHeartbeats 4000000 in
theorem q_Md_readPane {c : Nat} (hc : isChap c) {N : hn} : f_Md_readPane S0 76 (N.1, N.2, rT c) = emv c (F_Md_readPane c N) := by
  unfold f_Md_readPane F_Md_readPane
  (simp only [hl_n, hl_wI, hl_wL, hl_cp, em_s, em_n, em_g, em_i, em_l, em_b, em_v, emv_s, emv_n, emv_g, emv_i, emv_l, emv_b, emv_v, hb_em, hv_em, hg_T, ne_eq, not_false_eq_true, nz_c, S0_c, S0_lw, S0_h, isHold_36, hc, hc.d, hc.l, hc.d.l, nz_1, nz_2, nz_3, nz_4, nz_5, nz_6, nz_7, nz_8, S0_76, ib_78, ib_80, ib_82, q_Md_find hc, q_Md_isName hc, q_Md_takeAfter hc, q_Md_takeNumber hc, q_Md_takeWord hc, q_Md_wrong hc, rT_76_10, rT_76_4, rT_76_6, q_Md_readPane_1 hc, q_Md_readPane_2 hc, q_Md_readPane_3 hc, q_Md_readPane_4 hc]) <;> rfl
set_option maxRecDepth 100000 in
set_option maxHeartbeats 4000000 in
theorem q_Md_readCloud {c : Nat} (hc : isChap c) {N : hn} : f_Md_readCloud S0 76 (N.1, N.2, rT c) = emv c (F_Md_readCloud c N) := by
  unfold f_Md_readCloud F_Md_readCloud
  (simp only [hl_n, hl_wI, hl_wL, hl_cp, em_s, em_n, em_g, em_i, em_l, em_b, em_v, emv_s, emv_n, emv_g, emv_i, emv_l, emv_b, emv_v, hb_em, hv_em, hg_T, ne_eq, not_false_eq_true, nz_c, S0_c, S0_lw, S0_h, isHold_36, hc, hc.d, hc.l, hc.d.l, nz_1, nz_2, nz_3, nz_4, nz_5, nz_6, nz_7, nz_8, S0_76, ib_82, q_Md_takeNumber hc, q_Md_wrong hc, rT_76_10]) <;> rfl
set_option maxRecDepth 100000 in
set_option maxHeartbeats 4000000 in
theorem q_Md_factHere_6 {c : Nat} (hc : isChap c) {k4 : Nat → Int32 → Int32 → hm_M → Option (Int32 × hm_M)} {K4 : Int32 → Int32 → hn → Option (Int32 × hn)} (hk4 : ∀ (v1 : Int32) (v2 : Int32) (N : hn), k4 76 v1 v2 (N.1, N.2, rT c) = em c (K4 v1 v2 N)) {v2 : Int32} {s0 : Int32} {N : hn} : b_Md_factHere_6 S0 k4 76 v2 s0 (N.1, N.2, rT c) = em c (B_Md_factHere_6 c K4 v2 s0 N) := by
  unfold b_Md_factHere_6 B_Md_factHere_6
  (simp only [hl_n, hl_wI, hl_wL, hl_cp, em_s, em_n, em_g, em_i, em_l, em_b, em_v, emv_s, emv_n, emv_g, emv_i, emv_l, emv_b, emv_v, hb_em, hv_em, hg_T, ne_eq, not_false_eq_true, nz_c, S0_c, S0_lw, S0_h, isHold_36, hc, hc.d, hc.l, hc.d.l, nz_1, nz_2, nz_3, nz_4, nz_5, nz_6, nz_7, nz_8, S0_76, q_Md_isWord hc, hk4]) <;> rfl
set_option maxRecDepth 100000 in
set_option maxHeartbeats 4000000 in
theorem q_Md_factHere_5 {c : Nat} (hc : isChap c) {k4 : Nat → Int32 → Int32 → hm_M → Option (Int32 × hm_M)} {K4 : Int32 → Int32 → hn → Option (Int32 × hn)} (hk4 : ∀ (v1 : Int32) (v2 : Int32) (N : hn), k4 76 v1 v2 (N.1, N.2, rT c) = em c (K4 v1 v2 N)) {v1 : Int32} {v2 : Int32} {N : hn} : b_Md_factHere_5 S0 k4 76 v1 v2 (N.1, N.2, rT c) = em c (B_Md_factHere_5 c K4 v1 v2 N) := by
  unfold b_Md_factHere_5 B_Md_factHere_5
  (simp only [hl_n, hl_wI, hl_wL, hl_cp, em_s, em_n, em_g, em_i, em_l, em_b, em_v, emv_s, emv_n, emv_g, emv_i, emv_l, emv_b, emv_v, hb_em, hv_em, hg_T, ne_eq, not_false_eq_true, nz_c, S0_c, S0_lw, S0_h, isHold_36, hc, hc.d, hc.l, hc.d.l, nz_1, nz_2, nz_3, nz_4, nz_5, nz_6, nz_7, nz_8, S0_76, q_Md_isWord hc, hk4, q_Md_factHere_6 hc hk4]) <;> rfl
set_option maxRecDepth 100000 in
set_option maxHeartbeats 4000000 in
theorem q_Md_factHere_4 {c : Nat} (hc : isChap c) {k4 : Nat → Int32 → Int32 → hm_M → Option (Int32 × hm_M)} {K4 : Int32 → Int32 → hn → Option (Int32 × hn)} (hk4 : ∀ (v1 : Int32) (v2 : Int32) (N : hn), k4 76 v1 v2 (N.1, N.2, rT c) = em c (K4 v1 v2 N)) {v1 : Int32} {v2 : Int32} {s0 : Int32} {N : hn} : b_Md_factHere_4 S0 k4 76 v1 v2 s0 (N.1, N.2, rT c) = em c (B_Md_factHere_4 c K4 v1 v2 s0 N) := by
  unfold b_Md_factHere_4 B_Md_factHere_4
  (simp only [hl_n, hl_wI, hl_wL, hl_cp, em_s, em_n, em_g, em_i, em_l, em_b, em_v, emv_s, emv_n, emv_g, emv_i, emv_l, emv_b, emv_v, hb_em, hv_em, hg_T, ne_eq, not_false_eq_true, nz_c, S0_c, S0_lw, S0_h, isHold_36, hc, hc.d, hc.l, hc.d.l, nz_1, nz_2, nz_3, nz_4, nz_5, nz_6, nz_7, nz_8, S0_76, q_Md_isWord hc, hk4, q_Md_factHere_6 hc hk4, q_Md_factHere_5 hc hk4]) <;> rfl
set_option maxRecDepth 100000 in
set_option maxHeartbeats 4000000 in
theorem q_Md_factHere_3 {c : Nat} (hc : isChap c) {k4 : Nat → Int32 → Int32 → hm_M → Option (Int32 × hm_M)} {K4 : Int32 → Int32 → hn → Option (Int32 × hn)} (hk4 : ∀ (v1 : Int32) (v2 : Int32) (N : hn), k4 76 v1 v2 (N.1, N.2, rT c) = em c (K4 v1 v2 N)) {v1 : Int32} {v2 : Int32} {N : hn} : b_Md_factHere_3 S0 k4 76 v1 v2 (N.1, N.2, rT c) = em c (B_Md_factHere_3 c K4 v1 v2 N) := by
  unfold b_Md_factHere_3 B_Md_factHere_3
  (simp only [hl_n, hl_wI, hl_wL, hl_cp, em_s, em_n, em_g, em_i, em_l, em_b, em_v, emv_s, emv_n, emv_g, emv_i, emv_l, emv_b, emv_v, hb_em, hv_em, hg_T, ne_eq, not_false_eq_true, nz_c, S0_c, S0_lw, S0_h, isHold_36, hc, hc.d, hc.l, hc.d.l, nz_1, nz_2, nz_3, nz_4, nz_5, nz_6, nz_7, nz_8, S0_76, q_Md_isWord hc, hk4, q_Md_factHere_6 hc hk4, q_Md_factHere_5 hc hk4, q_Md_factHere_4 hc hk4]) <;> rfl
set_option maxRecDepth 100000 in
set_option maxHeartbeats 4000000 in
theorem q_Md_factHere_2 {c : Nat} (hc : isChap c) {k4 : Nat → Int32 → Int32 → hm_M → Option (Int32 × hm_M)} {K4 : Int32 → Int32 → hn → Option (Int32 × hn)} (hk4 : ∀ (v1 : Int32) (v2 : Int32) (N : hn), k4 76 v1 v2 (N.1, N.2, rT c) = em c (K4 v1 v2 N)) {v1 : Int32} {v2 : Int32} {N : hn} : b_Md_factHere_2 S0 k4 76 v1 v2 (N.1, N.2, rT c) = em c (B_Md_factHere_2 c K4 v1 v2 N) := by
  unfold b_Md_factHere_2 B_Md_factHere_2
  (simp only [hl_n, hl_wI, hl_wL, hl_cp, em_s, em_n, em_g, em_i, em_l, em_b, em_v, emv_s, emv_n, emv_g, emv_i, emv_l, emv_b, emv_v, hb_em, hv_em, hg_T, ne_eq, not_false_eq_true, nz_c, S0_c, S0_lw, S0_h, isHold_36, hc, hc.d, hc.l, hc.d.l, nz_1, nz_2, nz_3, nz_4, nz_5, nz_6, nz_7, nz_8, S0_76, q_Md_isWord hc, hk4, q_Md_factHere_6 hc hk4, q_Md_factHere_5 hc hk4, q_Md_factHere_4 hc hk4, q_Md_factHere_3 hc hk4]) <;> rfl
set_option maxRecDepth 100000 in
set_option maxHeartbeats 4000000 in
theorem r_Md_factHere_1 {c : Nat} (hc : isChap c) {k4 : Nat → Int32 → Int32 → hm_M → Option (Int32 × hm_M)} {K4 : Int32 → Int32 → hn → Option (Int32 × hn)} (hk4 : ∀ (v1 : Int32) (v2 : Int32) (N : hn), k4 76 v1 v2 (N.1, N.2, rT c) = em c (K4 v1 v2 N)) {v1 : Int32} {v2 : Int32} {N : hn} : b_Md_factHere_1 S0 k4 76 v1 v2 (N.1, N.2, rT c) = em c (B_Md_factHere_1 c K4 v1 v2 N) := by
  unfold b_Md_factHere_1 B_Md_factHere_1
  (simp only [hl_n, hl_wI, hl_wL, hl_cp, em_s, em_n, em_g, em_i, em_l, em_b, em_v, emv_s, emv_n, emv_g, emv_i, emv_l, emv_b, emv_v, hb_em, hv_em, hg_T, ne_eq, not_false_eq_true, nz_c, S0_c, S0_lw, S0_h, isHold_36, hc, hc.d, hc.l, hc.d.l, nz_1, nz_2, nz_3, nz_4, nz_5, nz_6, nz_7, nz_8, S0_76, q_Md_isWord hc, hk4, q_Md_factHere_6 hc hk4, q_Md_factHere_5 hc hk4, q_Md_factHere_4 hc hk4, q_Md_factHere_3 hc hk4, q_Md_factHere_2 hc hk4]) <;> rfl
theorem q_Md_factHere_1 {c : Nat} (hc : isChap c) : ∀ (n : Nat) (v1 : Int32) (v2 : Int32) (N : hn), f_Md_factHere_1 S0 n 76 v1 v2 (N.1, N.2, rT c) = em c (F_Md_factHere_1 c n v1 v2 N) := by
  intro n
  induction n with
  | zero => intros; rfl
  | succ n ih => intro v1 v2 N ; exact r_Md_factHere_1 hc  ih 
set_option maxRecDepth 100000 in
set_option maxHeartbeats 4000000 in
theorem q_Md_factHere {c : Nat} (hc : isChap c) {N : hn} : f_Md_factHere S0 76 (N.1, N.2, rT c) = em c (F_Md_factHere c N) := by
  unfold f_Md_factHere F_Md_factHere
  (simp only [hl_n, hl_wI, hl_wL, hl_cp, em_s, em_n, em_g, em_i, em_l, em_b, em_v, emv_s, emv_n, emv_g, emv_i, emv_l, emv_b, emv_v, hb_em, hv_em, hg_T, ne_eq, not_false_eq_true, nz_c, S0_c, S0_lw, S0_h, isHold_36, hc, hc.d, hc.l, hc.d.l, nz_1, nz_2, nz_3, nz_4, nz_5, nz_6, nz_7, nz_8, S0_76, q_Md_isWord hc, q_Md_factHere_1 hc]) <;> rfl
set_option maxRecDepth 100000 in
set_option maxHeartbeats 4000000 in
theorem q_Md_takeSign {c : Nat} (hc : isChap c) {v1 : Int32} {N : hn} : f_Md_takeSign S0 76 v1 (N.1, N.2, rT c) = emv c (F_Md_takeSign c v1 N) := by
  unfold f_Md_takeSign F_Md_takeSign
  (simp only [hl_n, hl_wI, hl_wL, hl_cp, em_s, em_n, em_g, em_i, em_l, em_b, em_v, emv_s, emv_n, emv_g, emv_i, emv_l, emv_b, emv_v, hb_em, hv_em, hg_T, ne_eq, not_false_eq_true, nz_c, S0_c, S0_lw, S0_h, isHold_36, hc, hc.d, hc.l, hc.d.l, nz_1, nz_2, nz_3, nz_4, nz_5, nz_6, nz_7, nz_8, S0_76, q_Md_isSign hc, q_Md_wrong hc]) <;> rfl
set_option maxRecDepth 100000 in
set_option maxHeartbeats 4000000 in
theorem q_Md_readLaw_2 {c : Nat} (hc : isChap c) {k7 : Nat → Int32 → hm_M → Option hm_M} {K7 : Int32 → hn → Option hn} (hk7 : ∀ (v1 : Int32) (N : hn), k7 76 v1 (N.1, N.2, rT c) = emv c (K7 v1 N)) {v1 : Int32} {s0 : Int32} {N : hn} : b_Md_readLaw_2 S0 k7 76 v1 s0 76 (N.1, N.2, rT c) = emv c (B_Md_readLaw_2 c K7 v1 s0 N) := by
  unfold b_Md_readLaw_2 B_Md_readLaw_2
  (simp only [hl_n, hl_wI, hl_wL, hl_cp, em_s, em_n, em_g, em_i, em_l, em_b, em_v, emv_s, emv_n, emv_g, emv_i, emv_l, emv_b, emv_v, hb_em, hv_em, hg_T, ne_eq, not_false_eq_true, nz_c, S0_c, S0_lw, S0_h, isHold_36, hc, hc.d, hc.l, hc.d.l, nz_1, nz_2, nz_3, nz_4, nz_5, nz_6, nz_7, nz_8, S0_76, ib_82, q_Md_all hc, q_Md_emit hc, q_Md_isWord hc, q_Md_wrong hc, rT_76_10, hk7]) <;> rfl
set_option maxRecDepth 100000 in
set_option maxHeartbeats 4000000 in
theorem r_Md_readLaw_1 {c : Nat} (hc : isChap c) {k7 : Nat → Int32 → hm_M → Option hm_M} {K7 : Int32 → hn → Option hn} (hk7 : ∀ (v1 : Int32) (N : hn), k7 76 v1 (N.1, N.2, rT c) = emv c (K7 v1 N)) {v1 : Int32} {N : hn} : b_Md_readLaw_1 S0 k7 76 v1 (N.1, N.2, rT c) = emv c (B_Md_readLaw_1 c K7 v1 N) := by
  unfold b_Md_readLaw_1 B_Md_readLaw_1
  (simp only [hl_n, hl_wI, hl_wL, hl_cp, em_s, em_n, em_g, em_i, em_l, em_b, em_v, emv_s, emv_n, emv_g, emv_i, emv_l, emv_b, emv_v, hb_em, hv_em, hg_T, ne_eq, not_false_eq_true, nz_c, S0_c, S0_lw, S0_h, isHold_36, hc, hc.d, hc.l, hc.d.l, nz_1, nz_2, nz_3, nz_4, nz_5, nz_6, nz_7, nz_8, S0_76, ib_82, q_Md_all hc, q_Md_emit hc, q_Md_isWord hc, q_Md_wrong hc, rT_76_10, hk7, q_Md_readLaw_2 hc hk7]) <;> rfl
theorem q_Md_readLaw_1 {c : Nat} (hc : isChap c) : ∀ (n : Nat) (v1 : Int32) (N : hn), f_Md_readLaw_1 S0 n 76 v1 (N.1, N.2, rT c) = emv c (F_Md_readLaw_1 c n v1 N) := by
  intro n
  induction n with
  | zero => intros; rfl
  | succ n ih => intro v1 N ; exact r_Md_readLaw_1 hc  ih 
set_option maxRecDepth 100000 in
set_option maxHeartbeats 4000000 in
theorem q_Md_readLaw {c : Nat} (hc : isChap c) {N : hn} : f_Md_readLaw S0 76 (N.1, N.2, rT c) = emv c (F_Md_readLaw c N) := by
  unfold f_Md_readLaw F_Md_readLaw
  (simp only [hl_n, hl_wI, hl_wL, hl_cp, em_s, em_n, em_g, em_i, em_l, em_b, em_v, emv_s, emv_n, emv_g, emv_i, emv_l, emv_b, emv_v, hb_em, hv_em, hg_T, ne_eq, not_false_eq_true, nz_c, S0_c, S0_lw, S0_h, isHold_36, hc, hc.d, hc.l, hc.d.l, nz_1, nz_2, nz_3, nz_4, nz_5, nz_6, nz_7, nz_8, S0_76, ib_82, q_Md_all hc, q_Md_emit hc, q_Md_isWord hc, q_Md_wrong hc, rT_76_10, q_Md_readLaw_1 hc]) <;> rfl
set_option maxRecDepth 100000 in
set_option maxHeartbeats 4000000 in
theorem q_Md_readLine {c : Nat} (hc : isChap c) {N : hn} : f_Md_readLine S0 76 (N.1, N.2, rT c) = emv c (F_Md_readLine c N) := by
  unfold f_Md_readLine F_Md_readLine
  (simp only [hl_n, hl_wI, hl_wL, hl_cp, em_s, em_n, em_g, em_i, em_l, em_b, em_v, emv_s, emv_n, emv_g, emv_i, emv_l, emv_b, emv_v, hb_em, hv_em, hg_T, ne_eq, not_false_eq_true, nz_c, S0_c, S0_lw, S0_h, isHold_36, hc, hc.d, hc.l, hc.d.l, nz_1, nz_2, nz_3, nz_4, nz_5, nz_6, nz_7, nz_8, S0_76, q_Md_isWord hc, q_Md_readCloud hc, q_Md_readFloor hc, q_Md_readGuild hc, q_Md_readLaw hc, q_Md_readPane hc]) <;> rfl
set_option maxRecDepth 100000 in
set_option maxHeartbeats 4000000 in
theorem r_Md_chapel_8 {c : Nat} (hc : isChap c) {k246 : Nat → Int32 → hm_M → Option (Int32 × hm_M)} {K246 : Int32 → hn → Option (Int32 × hn)} (hk246 : ∀ (v1 : Int32) (N : hn), k246 76 v1 (N.1, N.2, rT c) = em c (K246 v1 N)) {v1 : Int32} {N : hn} : b_Md_chapel_8 S0 k246 76 v1 (N.1, N.2, rT c) = em c (B_Md_chapel_8 c K246 v1 N) := by
  unfold b_Md_chapel_8 B_Md_chapel_8
  (simp only [hl_n, hl_wI, hl_wL, hl_cp, em_s, em_n, em_g, em_i, em_l, em_b, em_v, emv_s, emv_n, emv_g, emv_i, emv_l, emv_b, emv_v, hb_em, hv_em, hg_T, ne_eq, not_false_eq_true, nz_c, S0_c, S0_lw, S0_h, isHold_36, hc, hc.d, hc.l, hc.d.l, nz_1, nz_2, nz_3, nz_4, nz_5, nz_6, nz_7, nz_8, S0_76, ib_78, ib_82, ib_83, ib_84, ib_88, ib_89, q_Md_cutAll hc, q_Md_readLine hc, q_Md_takeSign hc, rT_76_10, rT_76_11, rT_76_12, rT_76_20, rT_76_22, rT_76_4, hk246]) <;> rfl
theorem q_Md_chapel_8 {c : Nat} (hc : isChap c) : ∀ (n : Nat) (v1 : Int32) (N : hn), f_Md_chapel_8 S0 n 76 v1 (N.1, N.2, rT c) = em c (F_Md_chapel_8 c n v1 N) := by
  intro n
  induction n with
  | zero => intros; rfl
  | succ n ih => intro v1 N ; exact r_Md_chapel_8 hc  ih 
set_option maxRecDepth 100000 in
set_option maxHeartbeats 4000000 in
theorem r_Md_chapel_7 {c : Nat} (hc : isChap c) {k190 : Nat → Int32 → hm_M → Option (Int32 × hm_M)} {K190 : Int32 → hn → Option (Int32 × hn)} (hk190 : ∀ (v1 : Int32) (N : hn), k190 76 v1 (N.1, N.2, rT c) = em c (K190 v1 N)) {v1 : Int32} {N : hn} : b_Md_chapel_7 S0 k190 76 v1 (N.1, N.2, rT c) = em c (B_Md_chapel_7 c K190 v1 N) := by
  unfold b_Md_chapel_7 B_Md_chapel_7
  (simp only [hl_n, hl_wI, hl_wL, hl_cp, em_s, em_n, em_g, em_i, em_l, em_b, em_v, emv_s, emv_n, emv_g, emv_i, emv_l, emv_b, emv_v, hb_em, hv_em, hg_T, ne_eq, not_false_eq_true, nz_c, S0_c, S0_lw, S0_h, isHold_36, hc, hc.d, hc.l, hc.d.l, nz_1, nz_2, nz_3, nz_4, nz_5, nz_6, nz_7, nz_8, S0_76, ib_78, ib_82, ib_83, ib_84, ib_88, ib_89, q_Md_cutAll hc, q_Md_readLine hc, q_Md_takeSign hc, rT_76_10, rT_76_11, rT_76_12, rT_76_20, rT_76_22, rT_76_4, hk190, q_Md_chapel_8 hc]) <;> rfl
theorem q_Md_chapel_7 {c : Nat} (hc : isChap c) : ∀ (n : Nat) (v1 : Int32) (N : hn), f_Md_chapel_7 S0 n 76 v1 (N.1, N.2, rT c) = em c (F_Md_chapel_7 c n v1 N) := by
  intro n
  induction n with
  | zero => intros; rfl
  | succ n ih => intro v1 N ; exact r_Md_chapel_7 hc  ih 
set_option maxRecDepth 100000 in
set_option maxHeartbeats 4000000 in
theorem r_Md_chapel_6 {c : Nat} (hc : isChap c) {k142 : Nat → Int32 → hm_M → Option (Int32 × hm_M)} {K142 : Int32 → hn → Option (Int32 × hn)} (hk142 : ∀ (v1 : Int32) (N : hn), k142 76 v1 (N.1, N.2, rT c) = em c (K142 v1 N)) {v1 : Int32} {N : hn} : b_Md_chapel_6 S0 k142 76 v1 (N.1, N.2, rT c) = em c (B_Md_chapel_6 c K142 v1 N) := by
  unfold b_Md_chapel_6 B_Md_chapel_6
  (simp only [hl_n, hl_wI, hl_wL, hl_cp, em_s, em_n, em_g, em_i, em_l, em_b, em_v, emv_s, emv_n, emv_g, emv_i, emv_l, emv_b, emv_v, hb_em, hv_em, hg_T, ne_eq, not_false_eq_true, nz_c, S0_c, S0_lw, S0_h, isHold_36, hc, hc.d, hc.l, hc.d.l, nz_1, nz_2, nz_3, nz_4, nz_5, nz_6, nz_7, nz_8, S0_76, ib_78, ib_82, ib_83, ib_84, ib_88, ib_89, q_Md_cutAll hc, q_Md_readLine hc, q_Md_takeSign hc, rT_76_10, rT_76_11, rT_76_12, rT_76_20, rT_76_22, rT_76_4, hk142, q_Md_chapel_8 hc, q_Md_chapel_7 hc]) <;> rfl
theorem q_Md_chapel_6 {c : Nat} (hc : isChap c) : ∀ (n : Nat) (v1 : Int32) (N : hn), f_Md_chapel_6 S0 n 76 v1 (N.1, N.2, rT c) = em c (F_Md_chapel_6 c n v1 N) := by
  intro n
  induction n with
  | zero => intros; rfl
  | succ n ih => intro v1 N ; exact r_Md_chapel_6 hc  ih 
set_option maxRecDepth 100000 in
set_option maxHeartbeats 4000000 in
theorem r_Md_chapel_5 {c : Nat} (hc : isChap c) {k113 : Nat → Int32 → hm_M → Option (Int32 × hm_M)} {K113 : Int32 → hn → Option (Int32 × hn)} (hk113 : ∀ (v1 : Int32) (N : hn), k113 76 v1 (N.1, N.2, rT c) = em c (K113 v1 N)) {v1 : Int32} {N : hn} : b_Md_chapel_5 S0 k113 76 v1 (N.1, N.2, rT c) = em c (B_Md_chapel_5 c K113 v1 N) := by
  unfold b_Md_chapel_5 B_Md_chapel_5
  (simp only [hl_n, hl_wI, hl_wL, hl_cp, em_s, em_n, em_g, em_i, em_l, em_b, em_v, emv_s, emv_n, emv_g, emv_i, emv_l, emv_b, emv_v, hb_em, hv_em, hg_T, ne_eq, not_false_eq_true, nz_c, S0_c, S0_lw, S0_h, isHold_36, hc, hc.d, hc.l, hc.d.l, nz_1, nz_2, nz_3, nz_4, nz_5, nz_6, nz_7, nz_8, S0_76, ib_78, ib_82, ib_83, ib_84, ib_88, ib_89, q_Md_cutAll hc, q_Md_readLine hc, q_Md_takeSign hc, rT_76_10, rT_76_11, rT_76_12, rT_76_20, rT_76_22, rT_76_4, hk113, q_Md_chapel_8 hc, q_Md_chapel_7 hc, q_Md_chapel_6 hc]) <;> rfl
theorem q_Md_chapel_5 {c : Nat} (hc : isChap c) : ∀ (n : Nat) (v1 : Int32) (N : hn), f_Md_chapel_5 S0 n 76 v1 (N.1, N.2, rT c) = em c (F_Md_chapel_5 c n v1 N) := by
  intro n
  induction n with
  | zero => intros; rfl
  | succ n ih => intro v1 N ; exact r_Md_chapel_5 hc  ih 
set_option maxRecDepth 100000 in
set_option maxHeartbeats 4000000 in
theorem q_Md_chapel_4 {c : Nat} (hc : isChap c) {N : hn} : b_Md_chapel_4 S0 76 (N.1, N.2, rT c) = em c (B_Md_chapel_4 c N) := by
  unfold b_Md_chapel_4 B_Md_chapel_4
  (simp only [hl_n, hl_wI, hl_wL, hl_cp, em_s, em_n, em_g, em_i, em_l, em_b, em_v, emv_s, emv_n, emv_g, emv_i, emv_l, emv_b, emv_v, hb_em, hv_em, hg_T, ne_eq, not_false_eq_true, nz_c, S0_c, S0_lw, S0_h, isHold_36, hc, hc.d, hc.l, hc.d.l, nz_1, nz_2, nz_3, nz_4, nz_5, nz_6, nz_7, nz_8, S0_76, ib_78, ib_82, ib_83, ib_84, ib_88, ib_89, q_Md_cutAll hc, q_Md_readLine hc, q_Md_takeSign hc, rT_76_10, rT_76_11, rT_76_12, rT_76_20, rT_76_22, rT_76_4, q_Md_chapel_8 hc, q_Md_chapel_7 hc, q_Md_chapel_6 hc, q_Md_chapel_5 hc]) <;> rfl
set_option maxRecDepth 100000 in
set_option maxHeartbeats 4000000 in
theorem r_Md_chapel_3 {c : Nat} (hc : isChap c) {k67 : Nat → hm_M → Option (Int32 × hm_M)} {K67 : hn → Option (Int32 × hn)} (hk67 : ∀ (N : hn), k67 76 (N.1, N.2, rT c) = em c (K67 N)) {N : hn} : b_Md_chapel_3 S0 k67 76 (N.1, N.2, rT c) = em c (B_Md_chapel_3 c K67 N) := by
  unfold b_Md_chapel_3 B_Md_chapel_3
  (simp only [hl_n, hl_wI, hl_wL, hl_cp, em_s, em_n, em_g, em_i, em_l, em_b, em_v, emv_s, emv_n, emv_g, emv_i, emv_l, emv_b, emv_v, hb_em, hv_em, hg_T, ne_eq, not_false_eq_true, nz_c, S0_c, S0_lw, S0_h, isHold_36, hc, hc.d, hc.l, hc.d.l, nz_1, nz_2, nz_3, nz_4, nz_5, nz_6, nz_7, nz_8, S0_76, ib_78, ib_82, ib_83, ib_84, ib_88, ib_89, q_Md_cutAll hc, q_Md_readLine hc, q_Md_takeSign hc, rT_76_10, rT_76_11, rT_76_12, rT_76_20, rT_76_22, rT_76_4, hk67, q_Md_chapel_8 hc, q_Md_chapel_7 hc, q_Md_chapel_6 hc, q_Md_chapel_5 hc, q_Md_chapel_4 hc]) <;> rfl
theorem q_Md_chapel_3 {c : Nat} (hc : isChap c) : ∀ (n : Nat) (N : hn), f_Md_chapel_3 S0 n 76 (N.1, N.2, rT c) = em c (F_Md_chapel_3 c n N) := by
  intro n
  induction n with
  | zero => intros; rfl
  | succ n ih => intro  N ; exact r_Md_chapel_3 hc  ih 
set_option maxRecDepth 100000 in
set_option maxHeartbeats 4000000 in
theorem q_Md_chapel_2 {c : Nat} (hc : isChap c) {k26 : Nat → Int32 → hm_M → Option (Int32 × hm_M)} {K26 : Int32 → hn → Option (Int32 × hn)} (hk26 : ∀ (v1 : Int32) (N : hn), k26 76 v1 (N.1, N.2, rT c) = em c (K26 v1 N)) {v1 : Int32} {s0 : Int32} {s1 : Int32} {N : hn} : b_Md_chapel_2 S0 k26 76 v1 s0 s1 82 (N.1, N.2, rT c) = em c (B_Md_chapel_2 c K26 v1 s0 s1 N) := by
  unfold b_Md_chapel_2 B_Md_chapel_2
  (simp only [hl_n, hl_wI, hl_wL, hl_cp, em_s, em_n, em_g, em_i, em_l, em_b, em_v, emv_s, emv_n, emv_g, emv_i, emv_l, emv_b, emv_v, hb_em, hv_em, hg_T, ne_eq, not_false_eq_true, nz_c, S0_c, S0_lw, S0_h, isHold_36, hc, hc.d, hc.l, hc.d.l, nz_1, nz_2, nz_3, nz_4, nz_5, nz_6, nz_7, nz_8, S0_76, ib_78, ib_82, ib_83, ib_84, ib_88, ib_89, q_Md_cutAll hc, q_Md_readLine hc, q_Md_takeSign hc, rT_76_10, rT_76_11, rT_76_12, rT_76_20, rT_76_22, rT_76_4, hk26, q_Md_chapel_8 hc, q_Md_chapel_7 hc, q_Md_chapel_6 hc, q_Md_chapel_5 hc, q_Md_chapel_4 hc, q_Md_chapel_3 hc]) <;> rfl
set_option maxRecDepth 100000 in
set_option maxHeartbeats 4000000 in
theorem r_Md_chapel_1 {c : Nat} (hc : isChap c) {k26 : Nat → Int32 → hm_M → Option (Int32 × hm_M)} {K26 : Int32 → hn → Option (Int32 × hn)} (hk26 : ∀ (v1 : Int32) (N : hn), k26 76 v1 (N.1, N.2, rT c) = em c (K26 v1 N)) {v1 : Int32} {N : hn} : b_Md_chapel_1 S0 k26 76 v1 (N.1, N.2, rT c) = em c (B_Md_chapel_1 c K26 v1 N) := by
  unfold b_Md_chapel_1 B_Md_chapel_1
  (simp only [hl_n, hl_wI, hl_wL, hl_cp, em_s, em_n, em_g, em_i, em_l, em_b, em_v, emv_s, emv_n, emv_g, emv_i, emv_l, emv_b, emv_v, hb_em, hv_em, hg_T, ne_eq, not_false_eq_true, nz_c, S0_c, S0_lw, S0_h, isHold_36, hc, hc.d, hc.l, hc.d.l, nz_1, nz_2, nz_3, nz_4, nz_5, nz_6, nz_7, nz_8, S0_76, ib_78, ib_82, ib_83, ib_84, ib_88, ib_89, q_Md_cutAll hc, q_Md_readLine hc, q_Md_takeSign hc, rT_76_10, rT_76_11, rT_76_12, rT_76_20, rT_76_22, rT_76_4, hk26, q_Md_chapel_8 hc, q_Md_chapel_7 hc, q_Md_chapel_6 hc, q_Md_chapel_5 hc, q_Md_chapel_4 hc, q_Md_chapel_3 hc, q_Md_chapel_2 hc hk26]) <;> rfl
theorem q_Md_chapel_1 {c : Nat} (hc : isChap c) : ∀ (n : Nat) (v1 : Int32) (N : hn), f_Md_chapel_1 S0 n 76 v1 (N.1, N.2, rT c) = em c (F_Md_chapel_1 c n v1 N) := by
  intro n
  induction n with
  | zero => intros; rfl
  | succ n ih => intro v1 N ; exact r_Md_chapel_1 hc  ih 
set_option maxRecDepth 100000 in
set_option maxHeartbeats 4000000 in
theorem q_Md_chapel {c : Nat} (hc : isChap c) {N : hn} : f_Md_chapel S0 76 (N.1, N.2, rT c) = em c (F_Md_chapel c N) := by
  unfold f_Md_chapel F_Md_chapel
  (simp only [hl_n, hl_wI, hl_wL, hl_cp, em_s, em_n, em_g, em_i, em_l, em_b, em_v, emv_s, emv_n, emv_g, emv_i, emv_l, emv_b, emv_v, hb_em, hv_em, hg_T, ne_eq, not_false_eq_true, nz_c, S0_c, S0_lw, S0_h, isHold_36, hc, hc.d, hc.l, hc.d.l, nz_1, nz_2, nz_3, nz_4, nz_5, nz_6, nz_7, nz_8, S0_76, ib_78, ib_82, ib_83, ib_84, ib_88, ib_89, q_Md_cutAll hc, q_Md_readLine hc, q_Md_takeSign hc, rT_76_10, rT_76_11, rT_76_12, rT_76_20, rT_76_22, rT_76_4, q_Md_chapel_1 hc, q_Md_chapel_3 hc, q_Md_chapel_4 hc, q_Md_chapel_5 hc, q_Md_chapel_6 hc, q_Md_chapel_7 hc, q_Md_chapel_8 hc]) <;> rfl
set_option maxRecDepth 100000 in
set_option maxHeartbeats 4000000 in
theorem q_Md_clear {c : Nat} (hc : isChap c) {N : hn} : f_Md_clear S0 76 (N.1, N.2, rT c) = em c (F_Md_clear c N) := by
  unfold f_Md_clear F_Md_clear
  (simp only [hl_n, hl_wI, hl_wL, hl_cp, em_s, em_n, em_g, em_i, em_l, em_b, em_v, emv_s, emv_n, emv_g, emv_i, emv_l, emv_b, emv_v, hb_em, hv_em, hg_T, ne_eq, not_false_eq_true, nz_c, S0_c, S0_lw, S0_h, isHold_36, hc, hc.d, hc.l, hc.d.l, nz_1, nz_2, nz_3, nz_4, nz_5, nz_6, nz_7, nz_8, S0_76, ib_88, rT_76_20]) <;> rfl
set_option maxRecDepth 100000 in
set_option maxHeartbeats 4000000 in
theorem q_Md_guilds {c : Nat} (hc : isChap c) {N : hn} : f_Md_guilds S0 76 (N.1, N.2, rT c) = em c (F_Md_guilds c N) := by
  unfold f_Md_guilds F_Md_guilds
  (simp only [hl_n, hl_wI, hl_wL, hl_cp, em_s, em_n, em_g, em_i, em_l, em_b, em_v, emv_s, emv_n, emv_g, emv_i, emv_l, emv_b, emv_v, hb_em, hv_em, hg_T, ne_eq, not_false_eq_true, nz_c, S0_c, S0_lw, S0_h, isHold_36, hc, hc.d, hc.l, hc.d.l, nz_1, nz_2, nz_3, nz_4, nz_5, nz_6, nz_7, nz_8, S0_76, ib_82, rT_76_10]) <;> rfl
set_option maxRecDepth 100000 in
set_option maxHeartbeats 4000000 in
theorem q_Md_isGuild {c : Nat} (hc : isChap c) {v1 : Int32} {N : hn} : f_Md_isGuild S0 76 v1 (N.1, N.2, rT c) = em c (F_Md_isGuild c v1 N) := by
  unfold f_Md_isGuild F_Md_isGuild
  (simp only [hl_n, hl_wI, hl_wL, hl_cp, em_s, em_n, em_g, em_i, em_l, em_b, em_v, emv_s, emv_n, emv_g, emv_i, emv_l, emv_b, emv_v, hb_em, hv_em, hg_T, ne_eq, not_false_eq_true, nz_c, S0_c, S0_lw, S0_h, isHold_36, hc, hc.d, hc.l, hc.d.l, nz_1, nz_2, nz_3, nz_4, nz_5, nz_6, nz_7, nz_8, S0_76, q_Md_guilds hc]) <;> rfl
set_option maxRecDepth 100000 in
set_option maxHeartbeats 4000000 in
theorem q_Md_draw {c : Nat} (hc : isChap c) {v1 : Int32} {N : hn} : f_Md_draw S0 76 v1 (N.1, N.2, rT c) = em c (F_Md_draw c v1 N) := by
  unfold f_Md_draw F_Md_draw
  (simp only [hl_n, hl_wI, hl_wL, hl_cp, em_s, em_n, em_g, em_i, em_l, em_b, em_v, emv_s, emv_n, emv_g, emv_i, emv_l, emv_b, emv_v, hb_em, hv_em, hg_T, ne_eq, not_false_eq_true, nz_c, S0_c, S0_lw, S0_h, isHold_36, hc, hc.d, hc.l, hc.d.l, nz_1, nz_2, nz_3, nz_4, nz_5, nz_6, nz_7, nz_8, S0_76]) <;> rfl
set_option maxRecDepth 100000 in
set_option maxHeartbeats 4000000 in
theorem q_Md_rentsOf_2 {c : Nat} (hc : isChap c) {k4 : Nat → Int32 → Int32 → Int32 → hm_M → Option (Int32 × hm_M)} {K4 : Int32 → Int32 → Int32 → hn → Option (Int32 × hn)} (hk4 : ∀ (v1 : Int32) (v2 : Int32) (v3 : Int32) (N : hn), k4 76 v1 v2 v3 (N.1, N.2, rT c) = em c (K4 v1 v2 v3 N)) {v1 : Int32} {v3 : Int32} {s0 : Int32} {s1 : Int32} {N : hn} : b_Md_rentsOf_2 S0 k4 76 v1 v3 s0 s1 (N.1, N.2, rT c) = em c (B_Md_rentsOf_2 c K4 v1 v3 s0 s1 N) := by
  unfold b_Md_rentsOf_2 B_Md_rentsOf_2
  (simp only [hl_n, hl_wI, hl_wL, hl_cp, em_s, em_n, em_g, em_i, em_l, em_b, em_v, emv_s, emv_n, emv_g, emv_i, emv_l, emv_b, emv_v, hb_em, hv_em, hg_T, ne_eq, not_false_eq_true, nz_c, S0_c, S0_lw, S0_h, isHold_36, hc, hc.d, hc.l, hc.d.l, nz_1, nz_2, nz_3, nz_4, nz_5, nz_6, nz_7, nz_8, S0_76, ib_91, q_Md_ownerOf hc, q_Md_panes hc, rT_76_25, hk4]) <;> rfl
set_option maxRecDepth 100000 in
set_option maxHeartbeats 4000000 in
theorem r_Md_rentsOf_1 {c : Nat} (hc : isChap c) {k4 : Nat → Int32 → Int32 → Int32 → hm_M → Option (Int32 × hm_M)} {K4 : Int32 → Int32 → Int32 → hn → Option (Int32 × hn)} (hk4 : ∀ (v1 : Int32) (v2 : Int32) (v3 : Int32) (N : hn), k4 76 v1 v2 v3 (N.1, N.2, rT c) = em c (K4 v1 v2 v3 N)) {v1 : Int32} {v2 : Int32} {v3 : Int32} {N : hn} : b_Md_rentsOf_1 S0 k4 76 v1 v2 v3 (N.1, N.2, rT c) = em c (B_Md_rentsOf_1 c K4 v1 v2 v3 N) := by
  unfold b_Md_rentsOf_1 B_Md_rentsOf_1
  (simp only [hl_n, hl_wI, hl_wL, hl_cp, em_s, em_n, em_g, em_i, em_l, em_b, em_v, emv_s, emv_n, emv_g, emv_i, emv_l, emv_b, emv_v, hb_em, hv_em, hg_T, ne_eq, not_false_eq_true, nz_c, S0_c, S0_lw, S0_h, isHold_36, hc, hc.d, hc.l, hc.d.l, nz_1, nz_2, nz_3, nz_4, nz_5, nz_6, nz_7, nz_8, S0_76, ib_91, q_Md_ownerOf hc, q_Md_panes hc, rT_76_25, hk4, q_Md_rentsOf_2 hc hk4]) <;> rfl
theorem q_Md_rentsOf_1 {c : Nat} (hc : isChap c) : ∀ (n : Nat) (v1 : Int32) (v2 : Int32) (v3 : Int32) (N : hn), f_Md_rentsOf_1 S0 n 76 v1 v2 v3 (N.1, N.2, rT c) = em c (F_Md_rentsOf_1 c n v1 v2 v3 N) := by
  intro n
  induction n with
  | zero => intros; rfl
  | succ n ih => intro v1 v2 v3 N ; exact r_Md_rentsOf_1 hc  ih 
set_option maxRecDepth 100000 in
set_option maxHeartbeats 4000000 in
theorem q_Md_rentsOf {c : Nat} (hc : isChap c) {v1 : Int32} {N : hn} : f_Md_rentsOf S0 76 v1 (N.1, N.2, rT c) = em c (F_Md_rentsOf c v1 N) := by
  unfold f_Md_rentsOf F_Md_rentsOf
  (simp only [hl_n, hl_wI, hl_wL, hl_cp, em_s, em_n, em_g, em_i, em_l, em_b, em_v, emv_s, emv_n, emv_g, emv_i, emv_l, emv_b, emv_v, hb_em, hv_em, hg_T, ne_eq, not_false_eq_true, nz_c, S0_c, S0_lw, S0_h, isHold_36, hc, hc.d, hc.l, hc.d.l, nz_1, nz_2, nz_3, nz_4, nz_5, nz_6, nz_7, nz_8, S0_76, ib_91, q_Md_ownerOf hc, q_Md_panes hc, rT_76_25, q_Md_rentsOf_1 hc]) <;> rfl
set_option maxRecDepth 100000 in
set_option maxHeartbeats 4000000 in
theorem q_Md_clouded_6 {c : Nat} (hc : isChap c) {k116 : Nat → Int32 → Int32 → Int32 → hm_M → Option (Int32 × hm_M)} {K116 : Int32 → Int32 → Int32 → hn → Option (Int32 × hn)} (hk116 : ∀ (v2 : Int32) (v3 : Int32) (v4 : Int32) (N : hn), k116 76 v2 v3 v4 (N.1, N.2, rT c) = em c (K116 v2 v3 v4 N)) {v2 : Int32} {v4 : Int32} {s0 : Int32} {s1 : Int32} {N : hn} : b_Md_clouded_6 S0 k116 76 v2 v4 s0 s1 (N.1, N.2, rT c) = em c (B_Md_clouded_6 c K116 v2 v4 s0 s1 N) := by
  unfold b_Md_clouded_6 B_Md_clouded_6
  (simp only [hl_n, hl_wI, hl_wL, hl_cp, em_s, em_n, em_g, em_i, em_l, em_b, em_v, emv_s, emv_n, emv_g, emv_i, emv_l, emv_b, emv_v, hb_em, hv_em, hg_T, ne_eq, not_false_eq_true, nz_c, S0_c, S0_lw, S0_h, isHold_36, hc, hc.d, hc.l, hc.d.l, nz_1, nz_2, nz_3, nz_4, nz_5, nz_6, nz_7, nz_8, S0_76, ib_82, ib_91, q_Md_addsYields hc, q_Md_draw hc, q_Md_guilds hc, q_Md_isGuild hc, q_Md_rentsOf hc, q_Md_within hc, rT_76_10, rT_76_25, hk116]) <;> rfl
set_option maxRecDepth 100000 in
set_option maxHeartbeats 4000000 in
theorem r_Md_clouded_5 {c : Nat} (hc : isChap c) {k116 : Nat → Int32 → Int32 → Int32 → hm_M → Option (Int32 × hm_M)} {K116 : Int32 → Int32 → Int32 → hn → Option (Int32 × hn)} (hk116 : ∀ (v2 : Int32) (v3 : Int32) (v4 : Int32) (N : hn), k116 76 v2 v3 v4 (N.1, N.2, rT c) = em c (K116 v2 v3 v4 N)) {v2 : Int32} {v3 : Int32} {v4 : Int32} {N : hn} : b_Md_clouded_5 S0 k116 76 v2 v3 v4 (N.1, N.2, rT c) = em c (B_Md_clouded_5 c K116 v2 v3 v4 N) := by
  unfold b_Md_clouded_5 B_Md_clouded_5
  (simp only [hl_n, hl_wI, hl_wL, hl_cp, em_s, em_n, em_g, em_i, em_l, em_b, em_v, emv_s, emv_n, emv_g, emv_i, emv_l, emv_b, emv_v, hb_em, hv_em, hg_T, ne_eq, not_false_eq_true, nz_c, S0_c, S0_lw, S0_h, isHold_36, hc, hc.d, hc.l, hc.d.l, nz_1, nz_2, nz_3, nz_4, nz_5, nz_6, nz_7, nz_8, S0_76, ib_82, ib_91, q_Md_addsYields hc, q_Md_draw hc, q_Md_guilds hc, q_Md_isGuild hc, q_Md_rentsOf hc, q_Md_within hc, rT_76_10, rT_76_25, hk116, q_Md_clouded_6 hc hk116]) <;> rfl
theorem q_Md_clouded_5 {c : Nat} (hc : isChap c) : ∀ (n : Nat) (v2 : Int32) (v3 : Int32) (v4 : Int32) (N : hn), f_Md_clouded_5 S0 n 76 v2 v3 v4 (N.1, N.2, rT c) = em c (F_Md_clouded_5 c n v2 v3 v4 N) := by
  intro n
  induction n with
  | zero => intros; rfl
  | succ n ih => intro v2 v3 v4 N ; exact r_Md_clouded_5 hc  ih 
set_option maxRecDepth 100000 in
set_option maxHeartbeats 4000000 in
theorem r_Md_clouded_4 {c : Nat} (hc : isChap c) {k71 : Nat → Int32 → Int32 → hm_M → Option (Int32 × hm_M)} {K71 : Int32 → Int32 → hn → Option (Int32 × hn)} (hk71 : ∀ (v2 : Int32) (v3 : Int32) (N : hn), k71 76 v2 v3 (N.1, N.2, rT c) = em c (K71 v2 v3 N)) {v2 : Int32} {v3 : Int32} {N : hn} : b_Md_clouded_4 S0 k71 76 v2 v3 (N.1, N.2, rT c) = em c (B_Md_clouded_4 c K71 v2 v3 N) := by
  unfold b_Md_clouded_4 B_Md_clouded_4
  (simp only [hl_n, hl_wI, hl_wL, hl_cp, em_s, em_n, em_g, em_i, em_l, em_b, em_v, emv_s, emv_n, emv_g, emv_i, emv_l, emv_b, emv_v, hb_em, hv_em, hg_T, ne_eq, not_false_eq_true, nz_c, S0_c, S0_lw, S0_h, isHold_36, hc, hc.d, hc.l, hc.d.l, nz_1, nz_2, nz_3, nz_4, nz_5, nz_6, nz_7, nz_8, S0_76, ib_82, ib_91, q_Md_addsYields hc, q_Md_draw hc, q_Md_guilds hc, q_Md_isGuild hc, q_Md_rentsOf hc, q_Md_within hc, rT_76_10, rT_76_25, hk71, q_Md_clouded_5 hc]) <;> rfl
theorem q_Md_clouded_4 {c : Nat} (hc : isChap c) : ∀ (n : Nat) (v2 : Int32) (v3 : Int32) (N : hn), f_Md_clouded_4 S0 n 76 v2 v3 (N.1, N.2, rT c) = em c (F_Md_clouded_4 c n v2 v3 N) := by
  intro n
  induction n with
  | zero => intros; rfl
  | succ n ih => intro v2 v3 N ; exact r_Md_clouded_4 hc  ih 
set_option maxRecDepth 100000 in
set_option maxHeartbeats 4000000 in
theorem r_Md_clouded_3 {c : Nat} (hc : isChap c) {k50 : Nat → Int32 → Int32 → hm_M → Option (Int32 × hm_M)} {K50 : Int32 → Int32 → hn → Option (Int32 × hn)} (hk50 : ∀ (v2 : Int32) (v3 : Int32) (N : hn), k50 76 v2 v3 (N.1, N.2, rT c) = em c (K50 v2 v3 N)) {v2 : Int32} {v3 : Int32} {N : hn} : b_Md_clouded_3 S0 k50 76 v2 v3 (N.1, N.2, rT c) = em c (B_Md_clouded_3 c K50 v2 v3 N) := by
  unfold b_Md_clouded_3 B_Md_clouded_3
  (simp only [hl_n, hl_wI, hl_wL, hl_cp, em_s, em_n, em_g, em_i, em_l, em_b, em_v, emv_s, emv_n, emv_g, emv_i, emv_l, emv_b, emv_v, hb_em, hv_em, hg_T, ne_eq, not_false_eq_true, nz_c, S0_c, S0_lw, S0_h, isHold_36, hc, hc.d, hc.l, hc.d.l, nz_1, nz_2, nz_3, nz_4, nz_5, nz_6, nz_7, nz_8, S0_76, ib_82, ib_91, q_Md_addsYields hc, q_Md_draw hc, q_Md_guilds hc, q_Md_isGuild hc, q_Md_rentsOf hc, q_Md_within hc, rT_76_10, rT_76_25, hk50, q_Md_clouded_5 hc, q_Md_clouded_4 hc]) <;> rfl
theorem q_Md_clouded_3 {c : Nat} (hc : isChap c) : ∀ (n : Nat) (v2 : Int32) (v3 : Int32) (N : hn), f_Md_clouded_3 S0 n 76 v2 v3 (N.1, N.2, rT c) = em c (F_Md_clouded_3 c n v2 v3 N) := by
  intro n
  induction n with
  | zero => intros; rfl
  | succ n ih => intro v2 v3 N ; exact r_Md_clouded_3 hc  ih 
set_option maxRecDepth 100000 in
set_option maxHeartbeats 4000000 in
theorem q_Md_clouded_2 {c : Nat} (hc : isChap c) {v1 : Int32} {v2 : Int32} {s0 : Int32} {N : hn} : b_Md_clouded_2 S0 76 v1 v2 s0 76 (N.1, N.2, rT c) = em c (B_Md_clouded_2 c v1 v2 s0 N) := by
  unfold b_Md_clouded_2 B_Md_clouded_2
  (simp only [hl_n, hl_wI, hl_wL, hl_cp, em_s, em_n, em_g, em_i, em_l, em_b, em_v, emv_s, emv_n, emv_g, emv_i, emv_l, emv_b, emv_v, hb_em, hv_em, hg_T, ne_eq, not_false_eq_true, nz_c, S0_c, S0_lw, S0_h, isHold_36, hc, hc.d, hc.l, hc.d.l, nz_1, nz_2, nz_3, nz_4, nz_5, nz_6, nz_7, nz_8, S0_76, ib_82, ib_91, q_Md_addsYields hc, q_Md_draw hc, q_Md_guilds hc, q_Md_isGuild hc, q_Md_rentsOf hc, q_Md_within hc, rT_76_10, rT_76_25, q_Md_clouded_5 hc, q_Md_clouded_4 hc, q_Md_clouded_3 hc]) <;> rfl
set_option maxRecDepth 100000 in
set_option maxHeartbeats 4000000 in
theorem q_Md_clouded_1 {c : Nat} (hc : isChap c) {v1 : Int32} {v2 : Int32} {N : hn} : b_Md_clouded_1 S0 76 v1 v2 76 (N.1, N.2, rT c) = em c (B_Md_clouded_1 c v1 v2 N) := by
  unfold b_Md_clouded_1 B_Md_clouded_1
  (simp only [hl_n, hl_wI, hl_wL, hl_cp, em_s, em_n, em_g, em_i, em_l, em_b, em_v, emv_s, emv_n, emv_g, emv_i, emv_l, emv_b, emv_v, hb_em, hv_em, hg_T, ne_eq, not_false_eq_true, nz_c, S0_c, S0_lw, S0_h, isHold_36, hc, hc.d, hc.l, hc.d.l, nz_1, nz_2, nz_3, nz_4, nz_5, nz_6, nz_7, nz_8, S0_76, ib_82, ib_91, q_Md_addsYields hc, q_Md_draw hc, q_Md_guilds hc, q_Md_isGuild hc, q_Md_rentsOf hc, q_Md_within hc, rT_76_10, rT_76_25, q_Md_clouded_5 hc, q_Md_clouded_4 hc, q_Md_clouded_3 hc, q_Md_clouded_2 hc]) <;> rfl
set_option maxRecDepth 100000 in
set_option maxHeartbeats 4000000 in
theorem q_Md_clouded {c : Nat} (hc : isChap c) {v1 : Int32} {v2 : Int32} {N : hn} : f_Md_clouded S0 76 v1 v2 (N.1, N.2, rT c) = em c (F_Md_clouded c v1 v2 N) := by
  unfold f_Md_clouded F_Md_clouded
  (simp only [hl_n, hl_wI, hl_wL, hl_cp, em_s, em_n, em_g, em_i, em_l, em_b, em_v, emv_s, emv_n, emv_g, emv_i, emv_l, emv_b, emv_v, hb_em, hv_em, hg_T, ne_eq, not_false_eq_true, nz_c, S0_c, S0_lw, S0_h, isHold_36, hc, hc.d, hc.l, hc.d.l, nz_1, nz_2, nz_3, nz_4, nz_5, nz_6, nz_7, nz_8, S0_76, ib_82, ib_91, q_Md_addsYields hc, q_Md_draw hc, q_Md_guilds hc, q_Md_isGuild hc, q_Md_rentsOf hc, q_Md_within hc, rT_76_10, rT_76_25, q_Md_clouded_1 hc, q_Md_clouded_2 hc, q_Md_clouded_3 hc, q_Md_clouded_4 hc, q_Md_clouded_5 hc]) <;> rfl
set_option maxRecDepth 100000 in
set_option maxHeartbeats 4000000 in
theorem q_Md_count {c : Nat} (hc : isChap c) {v1 : Int32} {N : hn} : f_Md_count S0 76 v1 (N.1, N.2, rT c) = em c (F_Md_count c v1 N) := by
  unfold f_Md_count F_Md_count
  (simp only [hl_n, hl_wI, hl_wL, hl_cp, em_s, em_n, em_g, em_i, em_l, em_b, em_v, emv_s, emv_n, emv_g, emv_i, emv_l, emv_b, emv_v, hb_em, hv_em, hg_T, ne_eq, not_false_eq_true, nz_c, S0_c, S0_lw, S0_h, isHold_36, hc, hc.d, hc.l, hc.d.l, nz_1, nz_2, nz_3, nz_4, nz_5, nz_6, nz_7, nz_8, S0_76, ib_82, ib_88, q_Md_bits hc, q_Md_guilds hc, q_Md_panes hc, q_Md_seens hc, rT_76_10, rT_76_20]) <;> rfl
set_option maxRecDepth 100000 in
set_option maxHeartbeats 4000000 in
theorem q_Md_exchange {c : Nat} (hc : isChap c) {v1 : Int32} {v2 : Int32} {N : hn} : f_Md_exchange S0 76 v1 v2 (N.1, N.2, rT c) = em c (F_Md_exchange c v1 v2 N) := by
  unfold f_Md_exchange F_Md_exchange
  (simp only [hl_n, hl_wI, hl_wL, hl_cp, em_s, em_n, em_g, em_i, em_l, em_b, em_v, emv_s, emv_n, emv_g, emv_i, emv_l, emv_b, emv_v, hb_em, hv_em, hg_T, ne_eq, not_false_eq_true, nz_c, S0_c, S0_lw, S0_h, isHold_36, hc, hc.d, hc.l, hc.d.l, nz_1, nz_2, nz_3, nz_4, nz_5, nz_6, nz_7, nz_8, S0_76, ib_88, q_Md_areUnlike hc, q_Md_keeps hc, q_Md_ownerOf hc, rT_76_20]) <;> rfl
set_option maxRecDepth 100000 in
set_option maxHeartbeats 4000000 in
theorem q_Md_findFalls_6 {c : Nat} (hc : isChap c) {k25 : Nat → Int32 → Int32 → hm_M → Option hm_M} {K25 : Int32 → Int32 → hn → Option hn} (hk25 : ∀ (v1 : Int32) (v2 : Int32) (N : hn), k25 76 v1 v2 (N.1, N.2, rT c) = emv c (K25 v1 v2 N)) {k43 : Nat → Int32 → Int32 → Int32 → Int32 → hm_M → Option hm_M} {K43 : Int32 → Int32 → Int32 → Int32 → hn → Option hn} (hk43 : ∀ (v1 : Int32) (v2 : Int32) (v3 : Int32) (v4 : Int32) (N : hn), k43 76 v1 v2 v3 v4 (N.1, N.2, rT c) = emv c (K43 v1 v2 v3 v4 N)) {k58 : Nat → Int32 → Int32 → Int32 → Int32 → Int32 → Int32 → hm_M → Option hm_M} {K58 : Int32 → Int32 → Int32 → Int32 → Int32 → Int32 → hn → Option hn} (hk58 : ∀ (v1 : Int32) (v2 : Int32) (v3 : Int32) (v4 : Int32) (v5 : Int32) (v6 : Int32) (N : hn), k58 76 v1 v2 v3 v4 v5 v6 (N.1, N.2, rT c) = emv c (K58 v1 v2 v3 v4 v5 v6 N)) {v1 : Int32} {v2 : Int32} {v3 : Int32} {v4 : Int32} {v6 : Int32} {s0 : Int32} {N : hn} : b_Md_findFalls_6 S0 k25 k43 k58 76 v1 v2 v3 v4 v6 s0 (N.1, N.2, rT c) = emv c (B_Md_findFalls_6 c K25 K43 K58 v1 v2 v3 v4 v6 s0 N) := by
  unfold b_Md_findFalls_6 B_Md_findFalls_6
  (simp only [hl_n, hl_wI, hl_wL, hl_cp, em_s, em_n, em_g, em_i, em_l, em_b, em_v, emv_s, emv_n, emv_g, emv_i, emv_l, emv_b, emv_v, hb_em, hv_em, hg_T, ne_eq, not_false_eq_true, nz_c, S0_c, S0_lw, S0_h, isHold_36, hc, hc.d, hc.l, hc.d.l, nz_1, nz_2, nz_3, nz_4, nz_5, nz_6, nz_7, nz_8, S0_76, ib_82, ib_94, q_Md_findYields hc, q_Md_guilds hc, q_Md_isBroken hc, q_Md_ownerOf hc, q_Md_panes hc, q_Md_rentsOf hc, rT_76_10, rT_76_29, hk25, hk43, hk58]) <;> rfl
set_option maxRecDepth 100000 in
set_option maxHeartbeats 4000000 in
theorem q_Md_findFalls_5 {c : Nat} (hc : isChap c) {k25 : Nat → Int32 → Int32 → hm_M → Option hm_M} {K25 : Int32 → Int32 → hn → Option hn} (hk25 : ∀ (v1 : Int32) (v2 : Int32) (N : hn), k25 76 v1 v2 (N.1, N.2, rT c) = emv c (K25 v1 v2 N)) {k43 : Nat → Int32 → Int32 → Int32 → Int32 → hm_M → Option hm_M} {K43 : Int32 → Int32 → Int32 → Int32 → hn → Option hn} (hk43 : ∀ (v1 : Int32) (v2 : Int32) (v3 : Int32) (v4 : Int32) (N : hn), k43 76 v1 v2 v3 v4 (N.1, N.2, rT c) = emv c (K43 v1 v2 v3 v4 N)) {k58 : Nat → Int32 → Int32 → Int32 → Int32 → Int32 → Int32 → hm_M → Option hm_M} {K58 : Int32 → Int32 → Int32 → Int32 → Int32 → Int32 → hn → Option hn} (hk58 : ∀ (v1 : Int32) (v2 : Int32) (v3 : Int32) (v4 : Int32) (v5 : Int32) (v6 : Int32) (N : hn), k58 76 v1 v2 v3 v4 v5 v6 (N.1, N.2, rT c) = emv c (K58 v1 v2 v3 v4 v5 v6 N)) {v1 : Int32} {v2 : Int32} {v3 : Int32} {v4 : Int32} {v6 : Int32} {N : hn} : b_Md_findFalls_5 S0 k25 k43 k58 76 v1 v2 v3 v4 v6 (N.1, N.2, rT c) = emv c (B_Md_findFalls_5 c K25 K43 K58 v1 v2 v3 v4 v6 N) := by
  unfold b_Md_findFalls_5 B_Md_findFalls_5
  (simp only [hl_n, hl_wI, hl_wL, hl_cp, em_s, em_n, em_g, em_i, em_l, em_b, em_v, emv_s, emv_n, emv_g, emv_i, emv_l, emv_b, emv_v, hb_em, hv_em, hg_T, ne_eq, not_false_eq_true, nz_c, S0_c, S0_lw, S0_h, isHold_36, hc, hc.d, hc.l, hc.d.l, nz_1, nz_2, nz_3, nz_4, nz_5, nz_6, nz_7, nz_8, S0_76, ib_82, ib_94, q_Md_findYields hc, q_Md_guilds hc, q_Md_isBroken hc, q_Md_ownerOf hc, q_Md_panes hc, q_Md_rentsOf hc, rT_76_10, rT_76_29, hk25, hk43, hk58, q_Md_findFalls_6 hc hk25 hk43 hk58]) <;> rfl
set_option maxRecDepth 100000 in
set_option maxHeartbeats 4000000 in
theorem r_Md_findFalls_4 {c : Nat} (hc : isChap c) {k25 : Nat → Int32 → Int32 → hm_M → Option hm_M} {K25 : Int32 → Int32 → hn → Option hn} (hk25 : ∀ (v1 : Int32) (v2 : Int32) (N : hn), k25 76 v1 v2 (N.1, N.2, rT c) = emv c (K25 v1 v2 N)) {k43 : Nat → Int32 → Int32 → Int32 → Int32 → hm_M → Option hm_M} {K43 : Int32 → Int32 → Int32 → Int32 → hn → Option hn} (hk43 : ∀ (v1 : Int32) (v2 : Int32) (v3 : Int32) (v4 : Int32) (N : hn), k43 76 v1 v2 v3 v4 (N.1, N.2, rT c) = emv c (K43 v1 v2 v3 v4 N)) {k58 : Nat → Int32 → Int32 → Int32 → Int32 → Int32 → Int32 → hm_M → Option hm_M} {K58 : Int32 → Int32 → Int32 → Int32 → Int32 → Int32 → hn → Option hn} (hk58 : ∀ (v1 : Int32) (v2 : Int32) (v3 : Int32) (v4 : Int32) (v5 : Int32) (v6 : Int32) (N : hn), k58 76 v1 v2 v3 v4 v5 v6 (N.1, N.2, rT c) = emv c (K58 v1 v2 v3 v4 v5 v6 N)) {v1 : Int32} {v2 : Int32} {v3 : Int32} {v4 : Int32} {v5 : Int32} {v6 : Int32} {N : hn} : b_Md_findFalls_4 S0 k25 k43 k58 76 v1 v2 v3 v4 v5 v6 (N.1, N.2, rT c) = emv c (B_Md_findFalls_4 c K25 K43 K58 v1 v2 v3 v4 v5 v6 N) := by
  unfold b_Md_findFalls_4 B_Md_findFalls_4
  (simp only [hl_n, hl_wI, hl_wL, hl_cp, em_s, em_n, em_g, em_i, em_l, em_b, em_v, emv_s, emv_n, emv_g, emv_i, emv_l, emv_b, emv_v, hb_em, hv_em, hg_T, ne_eq, not_false_eq_true, nz_c, S0_c, S0_lw, S0_h, isHold_36, hc, hc.d, hc.l, hc.d.l, nz_1, nz_2, nz_3, nz_4, nz_5, nz_6, nz_7, nz_8, S0_76, ib_82, ib_94, q_Md_findYields hc, q_Md_guilds hc, q_Md_isBroken hc, q_Md_ownerOf hc, q_Md_panes hc, q_Md_rentsOf hc, rT_76_10, rT_76_29, hk25, hk43, hk58, q_Md_findFalls_6 hc hk25 hk43 hk58, q_Md_findFalls_5 hc hk25 hk43 hk58]) <;> rfl
theorem q_Md_findFalls_4 {c : Nat} (hc : isChap c) {k25 : Nat → Int32 → Int32 → hm_M → Option hm_M} {K25 : Int32 → Int32 → hn → Option hn} (hk25 : ∀ (v1 : Int32) (v2 : Int32) (N : hn), k25 76 v1 v2 (N.1, N.2, rT c) = emv c (K25 v1 v2 N)) {k43 : Nat → Int32 → Int32 → Int32 → Int32 → hm_M → Option hm_M} {K43 : Int32 → Int32 → Int32 → Int32 → hn → Option hn} (hk43 : ∀ (v1 : Int32) (v2 : Int32) (v3 : Int32) (v4 : Int32) (N : hn), k43 76 v1 v2 v3 v4 (N.1, N.2, rT c) = emv c (K43 v1 v2 v3 v4 N)) : ∀ (n : Nat) (v1 : Int32) (v2 : Int32) (v3 : Int32) (v4 : Int32) (v5 : Int32) (v6 : Int32) (N : hn), f_Md_findFalls_4 S0 k25 k43 n 76 v1 v2 v3 v4 v5 v6 (N.1, N.2, rT c) = emv c (F_Md_findFalls_4 c K25 K43 n v1 v2 v3 v4 v5 v6 N) := by
  intro n
  induction n with
  | zero => intros; rfl
  | succ n ih => intro v1 v2 v3 v4 v5 v6 N ; exact r_Md_findFalls_4 hc hk25 hk43 ih 
set_option maxRecDepth 100000 in
set_option maxHeartbeats 4000000 in
theorem r_Md_findFalls_3 {c : Nat} (hc : isChap c) {k25 : Nat → Int32 → Int32 → hm_M → Option hm_M} {K25 : Int32 → Int32 → hn → Option hn} (hk25 : ∀ (v1 : Int32) (v2 : Int32) (N : hn), k25 76 v1 v2 (N.1, N.2, rT c) = emv c (K25 v1 v2 N)) {k43 : Nat → Int32 → Int32 → Int32 → Int32 → hm_M → Option hm_M} {K43 : Int32 → Int32 → Int32 → Int32 → hn → Option hn} (hk43 : ∀ (v1 : Int32) (v2 : Int32) (v3 : Int32) (v4 : Int32) (N : hn), k43 76 v1 v2 v3 v4 (N.1, N.2, rT c) = emv c (K43 v1 v2 v3 v4 N)) {v1 : Int32} {v2 : Int32} {v3 : Int32} {v4 : Int32} {N : hn} : b_Md_findFalls_3 S0 k25 k43 76 v1 v2 v3 v4 (N.1, N.2, rT c) = emv c (B_Md_findFalls_3 c K25 K43 v1 v2 v3 v4 N) := by
  unfold b_Md_findFalls_3 B_Md_findFalls_3
  (simp only [hl_n, hl_wI, hl_wL, hl_cp, em_s, em_n, em_g, em_i, em_l, em_b, em_v, emv_s, emv_n, emv_g, emv_i, emv_l, emv_b, emv_v, hb_em, hv_em, hg_T, ne_eq, not_false_eq_true, nz_c, S0_c, S0_lw, S0_h, isHold_36, hc, hc.d, hc.l, hc.d.l, nz_1, nz_2, nz_3, nz_4, nz_5, nz_6, nz_7, nz_8, S0_76, ib_82, ib_94, q_Md_findYields hc, q_Md_guilds hc, q_Md_isBroken hc, q_Md_ownerOf hc, q_Md_panes hc, q_Md_rentsOf hc, rT_76_10, rT_76_29, hk25, hk43, q_Md_findFalls_4 hc hk25 hk43]) <;> rfl
theorem q_Md_findFalls_3 {c : Nat} (hc : isChap c) {k25 : Nat → Int32 → Int32 → hm_M → Option hm_M} {K25 : Int32 → Int32 → hn → Option hn} (hk25 : ∀ (v1 : Int32) (v2 : Int32) (N : hn), k25 76 v1 v2 (N.1, N.2, rT c) = emv c (K25 v1 v2 N)) : ∀ (n : Nat) (v1 : Int32) (v2 : Int32) (v3 : Int32) (v4 : Int32) (N : hn), f_Md_findFalls_3 S0 k25 n 76 v1 v2 v3 v4 (N.1, N.2, rT c) = emv c (F_Md_findFalls_3 c K25 n v1 v2 v3 v4 N) := by
  intro n
  induction n with
  | zero => intros; rfl
  | succ n ih => intro v1 v2 v3 v4 N ; exact r_Md_findFalls_3 hc hk25 ih 
set_option maxRecDepth 100000 in
set_option maxHeartbeats 4000000 in
theorem r_Md_findFalls_2 {c : Nat} (hc : isChap c) {k25 : Nat → Int32 → Int32 → hm_M → Option hm_M} {K25 : Int32 → Int32 → hn → Option hn} (hk25 : ∀ (v1 : Int32) (v2 : Int32) (N : hn), k25 76 v1 v2 (N.1, N.2, rT c) = emv c (K25 v1 v2 N)) {v1 : Int32} {v2 : Int32} {N : hn} : b_Md_findFalls_2 S0 k25 76 v1 v2 (N.1, N.2, rT c) = emv c (B_Md_findFalls_2 c K25 v1 v2 N) := by
  unfold b_Md_findFalls_2 B_Md_findFalls_2
  (simp only [hl_n, hl_wI, hl_wL, hl_cp, em_s, em_n, em_g, em_i, em_l, em_b, em_v, emv_s, emv_n, emv_g, emv_i, emv_l, emv_b, emv_v, hb_em, hv_em, hg_T, ne_eq, not_false_eq_true, nz_c, S0_c, S0_lw, S0_h, isHold_36, hc, hc.d, hc.l, hc.d.l, nz_1, nz_2, nz_3, nz_4, nz_5, nz_6, nz_7, nz_8, S0_76, ib_82, ib_94, q_Md_findYields hc, q_Md_guilds hc, q_Md_isBroken hc, q_Md_ownerOf hc, q_Md_panes hc, q_Md_rentsOf hc, rT_76_10, rT_76_29, hk25, q_Md_findFalls_3 hc hk25]) <;> rfl
theorem q_Md_findFalls_2 {c : Nat} (hc : isChap c) : ∀ (n : Nat) (v1 : Int32) (v2 : Int32) (N : hn), f_Md_findFalls_2 S0 n 76 v1 v2 (N.1, N.2, rT c) = emv c (F_Md_findFalls_2 c n v1 v2 N) := by
  intro n
  induction n with
  | zero => intros; rfl
  | succ n ih => intro v1 v2 N ; exact r_Md_findFalls_2 hc  ih 
set_option maxRecDepth 100000 in
set_option maxHeartbeats 4000000 in
theorem r_Md_findFalls_1 {c : Nat} (hc : isChap c) {k2 : Nat → Int32 → hm_M → Option hm_M} {K2 : Int32 → hn → Option hn} (hk2 : ∀ (v1 : Int32) (N : hn), k2 76 v1 (N.1, N.2, rT c) = emv c (K2 v1 N)) {v1 : Int32} {N : hn} : b_Md_findFalls_1 S0 k2 76 v1 (N.1, N.2, rT c) = emv c (B_Md_findFalls_1 c K2 v1 N) := by
  unfold b_Md_findFalls_1 B_Md_findFalls_1
  (simp only [hl_n, hl_wI, hl_wL, hl_cp, em_s, em_n, em_g, em_i, em_l, em_b, em_v, emv_s, emv_n, emv_g, emv_i, emv_l, emv_b, emv_v, hb_em, hv_em, hg_T, ne_eq, not_false_eq_true, nz_c, S0_c, S0_lw, S0_h, isHold_36, hc, hc.d, hc.l, hc.d.l, nz_1, nz_2, nz_3, nz_4, nz_5, nz_6, nz_7, nz_8, S0_76, ib_82, ib_94, q_Md_findYields hc, q_Md_guilds hc, q_Md_isBroken hc, q_Md_ownerOf hc, q_Md_panes hc, q_Md_rentsOf hc, rT_76_10, rT_76_29, hk2, q_Md_findFalls_2 hc]) <;> rfl
theorem q_Md_findFalls_1 {c : Nat} (hc : isChap c) : ∀ (n : Nat) (v1 : Int32) (N : hn), f_Md_findFalls_1 S0 n 76 v1 (N.1, N.2, rT c) = emv c (F_Md_findFalls_1 c n v1 N) := by
  intro n
  induction n with
  | zero => intros; rfl
  | succ n ih => intro v1 N ; exact r_Md_findFalls_1 hc  ih 
set_option maxRecDepth 100000 in
set_option maxHeartbeats 4000000 in
theorem q_Md_findFalls {c : Nat} (hc : isChap c) {N : hn} : f_Md_findFalls S0 76 (N.1, N.2, rT c) = emv c (F_Md_findFalls c N) := by
  unfold f_Md_findFalls F_Md_findFalls
  (simp only [hl_n, hl_wI, hl_wL, hl_cp, em_s, em_n, em_g, em_i, em_l, em_b, em_v, emv_s, emv_n, emv_g, emv_i, emv_l, emv_b, emv_v, hb_em, hv_em, hg_T, ne_eq, not_false_eq_true, nz_c, S0_c, S0_lw, S0_h, isHold_36, hc, hc.d, hc.l, hc.d.l, nz_1, nz_2, nz_3, nz_4, nz_5, nz_6, nz_7, nz_8, S0_76, ib_82, ib_94, q_Md_findYields hc, q_Md_guilds hc, q_Md_isBroken hc, q_Md_ownerOf hc, q_Md_panes hc, q_Md_rentsOf hc, rT_76_10, rT_76_29, q_Md_findFalls_1 hc, q_Md_findFalls_2 hc]) <;> rfl
set_option maxRecDepth 100000 in
set_option maxHeartbeats 4000000 in
theorem q_Md_fallen_2 {c : Nat} (hc : isChap c) {k13 : Nat → Int32 → Int32 → hm_M → Option (Int32 × hm_M)} {K13 : Int32 → Int32 → hn → Option (Int32 × hn)} (hk13 : ∀ (v1 : Int32) (v2 : Int32) (N : hn), k13 76 v1 v2 (N.1, N.2, rT c) = em c (K13 v1 v2 N)) {v2 : Int32} {s0 : Int32} {s1 : Int32} {N : hn} : b_Md_fallen_2 S0 k13 76 v2 s0 s1 (N.1, N.2, rT c) = em c (B_Md_fallen_2 c K13 v2 s0 s1 N) := by
  unfold b_Md_fallen_2 B_Md_fallen_2
  (simp only [hl_n, hl_wI, hl_wL, hl_cp, em_s, em_n, em_g, em_i, em_l, em_b, em_v, emv_s, emv_n, emv_g, emv_i, emv_l, emv_b, emv_v, hb_em, hv_em, hg_T, ne_eq, not_false_eq_true, nz_c, S0_c, S0_lw, S0_h, isHold_36, hc, hc.d, hc.l, hc.d.l, nz_1, nz_2, nz_3, nz_4, nz_5, nz_6, nz_7, nz_8, S0_76, ib_94, q_Md_findFalls hc, q_Md_guilds hc, rT_76_29, hk13]) <;> rfl
set_option maxRecDepth 100000 in
set_option maxHeartbeats 4000000 in
theorem r_Md_fallen_1 {c : Nat} (hc : isChap c) {k13 : Nat → Int32 → Int32 → hm_M → Option (Int32 × hm_M)} {K13 : Int32 → Int32 → hn → Option (Int32 × hn)} (hk13 : ∀ (v1 : Int32) (v2 : Int32) (N : hn), k13 76 v1 v2 (N.1, N.2, rT c) = em c (K13 v1 v2 N)) {v1 : Int32} {v2 : Int32} {N : hn} : b_Md_fallen_1 S0 k13 76 v1 v2 (N.1, N.2, rT c) = em c (B_Md_fallen_1 c K13 v1 v2 N) := by
  unfold b_Md_fallen_1 B_Md_fallen_1
  (simp only [hl_n, hl_wI, hl_wL, hl_cp, em_s, em_n, em_g, em_i, em_l, em_b, em_v, emv_s, emv_n, emv_g, emv_i, emv_l, emv_b, emv_v, hb_em, hv_em, hg_T, ne_eq, not_false_eq_true, nz_c, S0_c, S0_lw, S0_h, isHold_36, hc, hc.d, hc.l, hc.d.l, nz_1, nz_2, nz_3, nz_4, nz_5, nz_6, nz_7, nz_8, S0_76, ib_94, q_Md_findFalls hc, q_Md_guilds hc, rT_76_29, hk13, q_Md_fallen_2 hc hk13]) <;> rfl
theorem q_Md_fallen_1 {c : Nat} (hc : isChap c) : ∀ (n : Nat) (v1 : Int32) (v2 : Int32) (N : hn), f_Md_fallen_1 S0 n 76 v1 v2 (N.1, N.2, rT c) = em c (F_Md_fallen_1 c n v1 v2 N) := by
  intro n
  induction n with
  | zero => intros; rfl
  | succ n ih => intro v1 v2 N ; exact r_Md_fallen_1 hc  ih 
set_option maxRecDepth 100000 in
set_option maxHeartbeats 4000000 in
theorem q_Md_fallen {c : Nat} (hc : isChap c) {N : hn} : f_Md_fallen S0 76 (N.1, N.2, rT c) = em c (F_Md_fallen c N) := by
  unfold f_Md_fallen F_Md_fallen
  (simp only [hl_n, hl_wI, hl_wL, hl_cp, em_s, em_n, em_g, em_i, em_l, em_b, em_v, emv_s, emv_n, emv_g, emv_i, emv_l, emv_b, emv_v, hb_em, hv_em, hg_T, ne_eq, not_false_eq_true, nz_c, S0_c, S0_lw, S0_h, isHold_36, hc, hc.d, hc.l, hc.d.l, nz_1, nz_2, nz_3, nz_4, nz_5, nz_6, nz_7, nz_8, S0_76, ib_94, q_Md_findFalls hc, q_Md_guilds hc, rT_76_29, q_Md_fallen_1 hc]) <;> rfl
set_option maxRecDepth 100000 in
set_option maxHeartbeats 4000000 in
theorem q_Md_falls {c : Nat} (hc : isChap c) {v1 : Int32} {N : hn} : f_Md_falls S0 76 v1 (N.1, N.2, rT c) = em c (F_Md_falls c v1 N) := by
  unfold f_Md_falls F_Md_falls
  (simp only [hl_n, hl_wI, hl_wL, hl_cp, em_s, em_n, em_g, em_i, em_l, em_b, em_v, emv_s, emv_n, emv_g, emv_i, emv_l, emv_b, emv_v, hb_em, hv_em, hg_T, ne_eq, not_false_eq_true, nz_c, S0_c, S0_lw, S0_h, isHold_36, hc, hc.d, hc.l, hc.d.l, nz_1, nz_2, nz_3, nz_4, nz_5, nz_6, nz_7, nz_8, S0_76, ib_94, q_Md_findFalls hc, q_Md_isGuild hc, rT_76_29]) <;> rfl
set_option maxRecDepth 100000 in
set_option maxHeartbeats 4000000 in
theorem q_Md_lay_2 {c : Nat} (hc : isChap c) {k3 : Nat → Int64 → Int32 → hm_M → Option hm_M} {K3 : Int64 → Int32 → hn → Option hn} (hk3 : ∀ (v1 : Int64) (v3 : Int32) (N : hn), k3 76 v1 v3 (N.1, N.2, rT c) = emv c (K3 v1 v3 N)) {v1 : Int64} {v3 : Int32} {v4 : Int32} {N : hn} : b_Md_lay_2 S0 k3 76 v1 v3 v4 (N.1, N.2, rT c) = emv c (B_Md_lay_2 c K3 v1 v3 v4 N) := by
  unfold b_Md_lay_2 B_Md_lay_2
  (simp only [hl_n, hl_wI, hl_wL, hl_cp, em_s, em_n, em_g, em_i, em_l, em_b, em_v, emv_s, emv_n, emv_g, emv_i, emv_l, emv_b, emv_v, hb_em, hv_em, hg_T, ne_eq, not_false_eq_true, nz_c, S0_c, S0_lw, S0_h, isHold_36, hc, hc.d, hc.l, hc.d.l, nz_1, nz_2, nz_3, nz_4, nz_5, nz_6, nz_7, nz_8, S0_76, ib_77, rT_76_1, hk3]) <;> rfl
set_option maxRecDepth 100000 in
set_option maxHeartbeats 4000000 in
theorem r_Md_lay_1 {c : Nat} (hc : isChap c) {k3 : Nat → Int64 → Int32 → hm_M → Option hm_M} {K3 : Int64 → Int32 → hn → Option hn} (hk3 : ∀ (v1 : Int64) (v3 : Int32) (N : hn), k3 76 v1 v3 (N.1, N.2, rT c) = emv c (K3 v1 v3 N)) {v1 : Int64} {v3 : Int32} {N : hn} : b_Md_lay_1 S0 k3 76 v1 v3 (N.1, N.2, rT c) = emv c (B_Md_lay_1 c K3 v1 v3 N) := by
  unfold b_Md_lay_1 B_Md_lay_1
  (simp only [hl_n, hl_wI, hl_wL, hl_cp, em_s, em_n, em_g, em_i, em_l, em_b, em_v, emv_s, emv_n, emv_g, emv_i, emv_l, emv_b, emv_v, hb_em, hv_em, hg_T, ne_eq, not_false_eq_true, nz_c, S0_c, S0_lw, S0_h, isHold_36, hc, hc.d, hc.l, hc.d.l, nz_1, nz_2, nz_3, nz_4, nz_5, nz_6, nz_7, nz_8, S0_76, ib_77, rT_76_1, hk3, q_Md_lay_2 hc hk3]) <;> rfl
theorem q_Md_lay_1 {c : Nat} (hc : isChap c) : ∀ (n : Nat) (v1 : Int64) (v3 : Int32) (N : hn), f_Md_lay_1 S0 n 76 v1 v3 (N.1, N.2, rT c) = emv c (F_Md_lay_1 c n v1 v3 N) := by
  intro n
  induction n with
  | zero => intros; rfl
  | succ n ih => intro v1 v3 N ; exact r_Md_lay_1 hc  ih 
set_option maxRecDepth 100000 in
set_option maxHeartbeats 4000000 in
theorem q_Md_lay {c : Nat} (hc : isChap c) {v1 : Int64} {N : hn} : f_Md_lay S0 76 v1 (N.1, N.2, rT c) = emv c (F_Md_lay c v1 N) := by
  unfold f_Md_lay F_Md_lay
  (simp only [hl_n, hl_wI, hl_wL, hl_cp, em_s, em_n, em_g, em_i, em_l, em_b, em_v, emv_s, emv_n, emv_g, emv_i, emv_l, emv_b, emv_v, hb_em, hv_em, hg_T, ne_eq, not_false_eq_true, nz_c, S0_c, S0_lw, S0_h, isHold_36, hc, hc.d, hc.l, hc.d.l, nz_1, nz_2, nz_3, nz_4, nz_5, nz_6, nz_7, nz_8, S0_76, ib_77, rT_76_1, q_Md_lay_1 hc]) <;> rfl
set_option maxRecDepth 100000 in
set_option maxHeartbeats 4000000 in
theorem q_Md_feed {c : Nat} (hc : isChap c) {v1 : Int64} {v3 : Int64} {v5 : Int64} {N : hn} : f_Md_feed S0 76 v1 v3 v5 (N.1, N.2, rT c) = em c (F_Md_feed c v1 v3 v5 N) := by
  unfold f_Md_feed F_Md_feed
  (simp only [hl_n, hl_wI, hl_wL, hl_cp, em_s, em_n, em_g, em_i, em_l, em_b, em_v, emv_s, emv_n, emv_g, emv_i, emv_l, emv_b, emv_v, hb_em, hv_em, hg_T, ne_eq, not_false_eq_true, nz_c, S0_c, S0_lw, S0_h, isHold_36, hc, hc.d, hc.l, hc.d.l, nz_1, nz_2, nz_3, nz_4, nz_5, nz_6, nz_7, nz_8, S0_76, q_Md_lay hc]) <;> rfl
set_option maxRecDepth 100000 in
set_option maxHeartbeats 4000000 in
theorem q_Md_isPlace {c : Nat} (hc : isChap c) {v1 : Int32} {N : hn} : f_Md_isPlace S0 76 v1 (N.1, N.2, rT c) = em c (F_Md_isPlace c v1 N) := by
  unfold f_Md_isPlace F_Md_isPlace
  (simp only [hl_n, hl_wI, hl_wL, hl_cp, em_s, em_n, em_g, em_i, em_l, em_b, em_v, emv_s, emv_n, emv_g, emv_i, emv_l, emv_b, emv_v, hb_em, hv_em, hg_T, ne_eq, not_false_eq_true, nz_c, S0_c, S0_lw, S0_h, isHold_36, hc, hc.d, hc.l, hc.d.l, nz_1, nz_2, nz_3, nz_4, nz_5, nz_6, nz_7, nz_8, S0_76, q_Md_isOn hc]) <;> rfl
set_option maxRecDepth 100000 in
set_option maxHeartbeats 4000000 in
theorem q_Md_findMay_7 {c : Nat} (hc : isChap c) {k101 : Nat → Int32 → Int32 → Int32 → hm_M → Option hm_M} {K101 : Int32 → Int32 → Int32 → hn → Option hn} (hk101 : ∀ (v4 : Int32) (v5 : Int32) (v6 : Int32) (N : hn), k101 76 v4 v5 v6 (N.1, N.2, rT c) = emv c (K101 v4 v5 v6 N)) {v4 : Int32} {v5 : Int32} {v6 : Int32} {s0 : Int32} {s1 : Int32} {N : hn} : b_Md_findMay_7 S0 k101 76 v4 v5 v6 s0 s1 95 (N.1, N.2, rT c) = emv c (B_Md_findMay_7 c K101 v4 v5 v6 s0 s1 N) := by
  unfold b_Md_findMay_7 B_Md_findMay_7
  (simp only [hl_n, hl_wI, hl_wL, hl_cp, em_s, em_n, em_g, em_i, em_l, em_b, em_v, emv_s, emv_n, emv_g, emv_i, emv_l, emv_b, emv_v, hb_em, hv_em, hg_T, ne_eq, not_false_eq_true, nz_c, S0_c, S0_lw, S0_h, isHold_36, hc, hc.d, hc.l, hc.d.l, nz_1, nz_2, nz_3, nz_4, nz_5, nz_6, nz_7, nz_8, S0_76, ib_95, q_Md_findLight hc, q_Md_isPlace hc, q_Md_lightAt hc, rT_76_30, hk101]) <;> rfl
set_option maxRecDepth 100000 in
set_option maxHeartbeats 4000000 in
theorem r_Md_findMay_6 {c : Nat} (hc : isChap c) {k101 : Nat → Int32 → Int32 → Int32 → hm_M → Option hm_M} {K101 : Int32 → Int32 → Int32 → hn → Option hn} (hk101 : ∀ (v4 : Int32) (v5 : Int32) (v6 : Int32) (N : hn), k101 76 v4 v5 v6 (N.1, N.2, rT c) = emv c (K101 v4 v5 v6 N)) {v4 : Int32} {v5 : Int32} {v6 : Int32} {N : hn} : b_Md_findMay_6 S0 k101 76 v4 v5 v6 (N.1, N.2, rT c) = emv c (B_Md_findMay_6 c K101 v4 v5 v6 N) := by
  unfold b_Md_findMay_6 B_Md_findMay_6
  (simp only [hl_n, hl_wI, hl_wL, hl_cp, em_s, em_n, em_g, em_i, em_l, em_b, em_v, emv_s, emv_n, emv_g, emv_i, emv_l, emv_b, emv_v, hb_em, hv_em, hg_T, ne_eq, not_false_eq_true, nz_c, S0_c, S0_lw, S0_h, isHold_36, hc, hc.d, hc.l, hc.d.l, nz_1, nz_2, nz_3, nz_4, nz_5, nz_6, nz_7, nz_8, S0_76, ib_95, q_Md_findLight hc, q_Md_isPlace hc, q_Md_lightAt hc, rT_76_30, hk101, q_Md_findMay_7 hc hk101]) <;> rfl
theorem q_Md_findMay_6 {c : Nat} (hc : isChap c) : ∀ (n : Nat) (v4 : Int32) (v5 : Int32) (v6 : Int32) (N : hn), f_Md_findMay_6 S0 n 76 v4 v5 v6 (N.1, N.2, rT c) = emv c (F_Md_findMay_6 c n v4 v5 v6 N) := by
  intro n
  induction n with
  | zero => intros; rfl
  | succ n ih => intro v4 v5 v6 N ; exact r_Md_findMay_6 hc  ih 
set_option maxRecDepth 100000 in
set_option maxHeartbeats 4000000 in
theorem q_Md_findMay_5 {c : Nat} (hc : isChap c) {k12 : Nat → Int32 → Int32 → Int32 → Int32 → hm_M → Option hm_M} {K12 : Int32 → Int32 → Int32 → Int32 → hn → Option hn} (hk12 : ∀ (v1 : Int32) (v4 : Int32) (v5 : Int32) (v6 : Int32) (N : hn), k12 76 v1 v4 v5 v6 (N.1, N.2, rT c) = emv c (K12 v1 v4 v5 v6 N)) {v1 : Int32} {v4 : Int32} {v5 : Int32} {v6 : Int32} {s0 : Int32} {s1 : Int32} {N : hn} : b_Md_findMay_5 S0 k12 76 v1 v4 v5 v6 s0 s1 95 (N.1, N.2, rT c) = emv c (B_Md_findMay_5 c K12 v1 v4 v5 v6 s0 s1 N) := by
  unfold b_Md_findMay_5 B_Md_findMay_5
  (simp only [hl_n, hl_wI, hl_wL, hl_cp, em_s, em_n, em_g, em_i, em_l, em_b, em_v, emv_s, emv_n, emv_g, emv_i, emv_l, emv_b, emv_v, hb_em, hv_em, hg_T, ne_eq, not_false_eq_true, nz_c, S0_c, S0_lw, S0_h, isHold_36, hc, hc.d, hc.l, hc.d.l, nz_1, nz_2, nz_3, nz_4, nz_5, nz_6, nz_7, nz_8, S0_76, ib_95, q_Md_findLight hc, q_Md_isPlace hc, q_Md_lightAt hc, rT_76_30, hk12, q_Md_findMay_6 hc]) <;> rfl
set_option maxRecDepth 100000 in
set_option maxHeartbeats 4000000 in
theorem q_Md_findMay_4 {c : Nat} (hc : isChap c) {k12 : Nat → Int32 → Int32 → Int32 → Int32 → hm_M → Option hm_M} {K12 : Int32 → Int32 → Int32 → Int32 → hn → Option hn} (hk12 : ∀ (v1 : Int32) (v4 : Int32) (v5 : Int32) (v6 : Int32) (N : hn), k12 76 v1 v4 v5 v6 (N.1, N.2, rT c) = emv c (K12 v1 v4 v5 v6 N)) {v1 : Int32} {v4 : Int32} {v6 : Int32} {v7 : Int32} {s0 : Int32} {N : hn} : b_Md_findMay_4 S0 k12 76 v1 v4 v6 v7 s0 (N.1, N.2, rT c) = emv c (B_Md_findMay_4 c K12 v1 v4 v6 v7 s0 N) := by
  unfold b_Md_findMay_4 B_Md_findMay_4
  (simp only [hl_n, hl_wI, hl_wL, hl_cp, em_s, em_n, em_g, em_i, em_l, em_b, em_v, emv_s, emv_n, emv_g, emv_i, emv_l, emv_b, emv_v, hb_em, hv_em, hg_T, ne_eq, not_false_eq_true, nz_c, S0_c, S0_lw, S0_h, isHold_36, hc, hc.d, hc.l, hc.d.l, nz_1, nz_2, nz_3, nz_4, nz_5, nz_6, nz_7, nz_8, S0_76, ib_95, q_Md_findLight hc, q_Md_isPlace hc, q_Md_lightAt hc, rT_76_30, hk12, q_Md_findMay_6 hc, q_Md_findMay_5 hc hk12]) <;> rfl
set_option maxRecDepth 100000 in
set_option maxHeartbeats 4000000 in
theorem q_Md_findMay_3 {c : Nat} (hc : isChap c) {k12 : Nat → Int32 → Int32 → Int32 → Int32 → hm_M → Option hm_M} {K12 : Int32 → Int32 → Int32 → Int32 → hn → Option hn} (hk12 : ∀ (v1 : Int32) (v4 : Int32) (v5 : Int32) (v6 : Int32) (N : hn), k12 76 v1 v4 v5 v6 (N.1, N.2, rT c) = emv c (K12 v1 v4 v5 v6 N)) {v1 : Int32} {v4 : Int32} {v5 : Int32} {v6 : Int32} {s0 : Int32} {N : hn} : b_Md_findMay_3 S0 k12 76 v1 v4 v5 v6 s0 (N.1, N.2, rT c) = emv c (B_Md_findMay_3 c K12 v1 v4 v5 v6 s0 N) := by
  unfold b_Md_findMay_3 B_Md_findMay_3
  (simp only [hl_n, hl_wI, hl_wL, hl_cp, em_s, em_n, em_g, em_i, em_l, em_b, em_v, emv_s, emv_n, emv_g, emv_i, emv_l, emv_b, emv_v, hb_em, hv_em, hg_T, ne_eq, not_false_eq_true, nz_c, S0_c, S0_lw, S0_h, isHold_36, hc, hc.d, hc.l, hc.d.l, nz_1, nz_2, nz_3, nz_4, nz_5, nz_6, nz_7, nz_8, S0_76, ib_95, q_Md_findLight hc, q_Md_isPlace hc, q_Md_lightAt hc, rT_76_30, hk12, q_Md_findMay_6 hc, q_Md_findMay_5 hc hk12, q_Md_findMay_4 hc hk12]) <;> rfl
set_option maxRecDepth 100000 in
set_option maxHeartbeats 4000000 in
theorem q_Md_findMay_2 {c : Nat} (hc : isChap c) {k12 : Nat → Int32 → Int32 → Int32 → Int32 → hm_M → Option hm_M} {K12 : Int32 → Int32 → Int32 → Int32 → hn → Option hn} (hk12 : ∀ (v1 : Int32) (v4 : Int32) (v5 : Int32) (v6 : Int32) (N : hn), k12 76 v1 v4 v5 v6 (N.1, N.2, rT c) = emv c (K12 v1 v4 v5 v6 N)) {v1 : Int32} {v4 : Int32} {v5 : Int32} {v6 : Int32} {N : hn} : b_Md_findMay_2 S0 k12 76 v1 v4 v5 v6 (N.1, N.2, rT c) = emv c (B_Md_findMay_2 c K12 v1 v4 v5 v6 N) := by
  unfold b_Md_findMay_2 B_Md_findMay_2
  (simp only [hl_n, hl_wI, hl_wL, hl_cp, em_s, em_n, em_g, em_i, em_l, em_b, em_v, emv_s, emv_n, emv_g, emv_i, emv_l, emv_b, emv_v, hb_em, hv_em, hg_T, ne_eq, not_false_eq_true, nz_c, S0_c, S0_lw, S0_h, isHold_36, hc, hc.d, hc.l, hc.d.l, nz_1, nz_2, nz_3, nz_4, nz_5, nz_6, nz_7, nz_8, S0_76, ib_95, q_Md_findLight hc, q_Md_isPlace hc, q_Md_lightAt hc, rT_76_30, hk12, q_Md_findMay_6 hc, q_Md_findMay_5 hc hk12, q_Md_findMay_4 hc hk12, q_Md_findMay_3 hc hk12]) <;> rfl
set_option maxRecDepth 100000 in
set_option maxHeartbeats 4000000 in
theorem r_Md_findMay_1 {c : Nat} (hc : isChap c) {k12 : Nat → Int32 → Int32 → Int32 → Int32 → hm_M → Option hm_M} {K12 : Int32 → Int32 → Int32 → Int32 → hn → Option hn} (hk12 : ∀ (v1 : Int32) (v4 : Int32) (v5 : Int32) (v6 : Int32) (N : hn), k12 76 v1 v4 v5 v6 (N.1, N.2, rT c) = emv c (K12 v1 v4 v5 v6 N)) {v1 : Int32} {v4 : Int32} {v5 : Int32} {v6 : Int32} {N : hn} : b_Md_findMay_1 S0 k12 76 v1 v4 v5 v6 (N.1, N.2, rT c) = emv c (B_Md_findMay_1 c K12 v1 v4 v5 v6 N) := by
  unfold b_Md_findMay_1 B_Md_findMay_1
  (simp only [hl_n, hl_wI, hl_wL, hl_cp, em_s, em_n, em_g, em_i, em_l, em_b, em_v, emv_s, emv_n, emv_g, emv_i, emv_l, emv_b, emv_v, hb_em, hv_em, hg_T, ne_eq, not_false_eq_true, nz_c, S0_c, S0_lw, S0_h, isHold_36, hc, hc.d, hc.l, hc.d.l, nz_1, nz_2, nz_3, nz_4, nz_5, nz_6, nz_7, nz_8, S0_76, ib_95, q_Md_findLight hc, q_Md_isPlace hc, q_Md_lightAt hc, rT_76_30, hk12, q_Md_findMay_6 hc, q_Md_findMay_5 hc hk12, q_Md_findMay_4 hc hk12, q_Md_findMay_3 hc hk12, q_Md_findMay_2 hc hk12]) <;> rfl
theorem q_Md_findMay_1 {c : Nat} (hc : isChap c) : ∀ (n : Nat) (v1 : Int32) (v4 : Int32) (v5 : Int32) (v6 : Int32) (N : hn), f_Md_findMay_1 S0 n 76 v1 v4 v5 v6 (N.1, N.2, rT c) = emv c (F_Md_findMay_1 c n v1 v4 v5 v6 N) := by
  intro n
  induction n with
  | zero => intros; rfl
  | succ n ih => intro v1 v4 v5 v6 N ; exact r_Md_findMay_1 hc  ih 
set_option maxRecDepth 100000 in
set_option maxHeartbeats 4000000 in
theorem q_Md_findMay {c : Nat} (hc : isChap c) {v1 : Int32} {v2 : Int32} {v3 : Int32} {v4 : Int32} {N : hn} : f_Md_findMay S0 76 v1 v2 v3 v4 (N.1, N.2, rT c) = emv c (F_Md_findMay c v1 v2 v3 v4 N) := by
  unfold f_Md_findMay F_Md_findMay
  (simp only [hl_n, hl_wI, hl_wL, hl_cp, em_s, em_n, em_g, em_i, em_l, em_b, em_v, emv_s, emv_n, emv_g, emv_i, emv_l, emv_b, emv_v, hb_em, hv_em, hg_T, ne_eq, not_false_eq_true, nz_c, S0_c, S0_lw, S0_h, isHold_36, hc, hc.d, hc.l, hc.d.l, nz_1, nz_2, nz_3, nz_4, nz_5, nz_6, nz_7, nz_8, S0_76, ib_95, q_Md_findLight hc, q_Md_isPlace hc, q_Md_lightAt hc, rT_76_30, q_Md_findMay_1 hc, q_Md_findMay_6 hc]) <;> rfl
set_option maxRecDepth 100000 in
set_option maxHeartbeats 4000000 in
theorem q_Md_steps_2 {c : Nat} (hc : isChap c) {s0 : Int32} {s1 : Int32} {N : hn} : b_Md_steps_2 S0 s0 s1 (N.1, N.2, rT c) = em c (B_Md_steps_2 c s0 s1 N) := by
  unfold b_Md_steps_2 B_Md_steps_2
  (simp only [hl_n, hl_wI, hl_wL, hl_cp, em_s, em_n, em_g, em_i, em_l, em_b, em_v, emv_s, emv_n, emv_g, emv_i, emv_l, emv_b, emv_v, hb_em, hv_em, hg_T, ne_eq, not_false_eq_true, nz_c, S0_c, S0_lw, S0_h, isHold_36, hc, hc.d, hc.l, hc.d.l, nz_1, nz_2, nz_3, nz_4, nz_5, nz_6, nz_7, nz_8, S0_76]) <;> rfl
set_option maxRecDepth 100000 in
set_option maxHeartbeats 4000000 in
theorem q_Md_steps_1 {c : Nat} (hc : isChap c) {v3 : Int32} {s0 : Int32} {N : hn} : b_Md_steps_1 S0 v3 s0 (N.1, N.2, rT c) = em c (B_Md_steps_1 c v3 s0 N) := by
  unfold b_Md_steps_1 B_Md_steps_1
  (simp only [hl_n, hl_wI, hl_wL, hl_cp, em_s, em_n, em_g, em_i, em_l, em_b, em_v, emv_s, emv_n, emv_g, emv_i, emv_l, emv_b, emv_v, hb_em, hv_em, hg_T, ne_eq, not_false_eq_true, nz_c, S0_c, S0_lw, S0_h, isHold_36, hc, hc.d, hc.l, hc.d.l, nz_1, nz_2, nz_3, nz_4, nz_5, nz_6, nz_7, nz_8, S0_76, q_Md_steps_2 hc]) <;> rfl
set_option maxRecDepth 100000 in
set_option maxHeartbeats 4000000 in
theorem q_Md_steps {c : Nat} (hc : isChap c) {v0 : Int32} {v1 : Int32} {N : hn} : f_Md_steps S0 v0 v1 (N.1, N.2, rT c) = em c (F_Md_steps c v0 v1 N) := by
  unfold f_Md_steps F_Md_steps
  (simp only [hl_n, hl_wI, hl_wL, hl_cp, em_s, em_n, em_g, em_i, em_l, em_b, em_v, emv_s, emv_n, emv_g, emv_i, emv_l, emv_b, emv_v, hb_em, hv_em, hg_T, ne_eq, not_false_eq_true, nz_c, S0_c, S0_lw, S0_h, isHold_36, hc, hc.d, hc.l, hc.d.l, nz_1, nz_2, nz_3, nz_4, nz_5, nz_6, nz_7, nz_8, S0_76, q_Md_steps_1 hc, q_Md_steps_2 hc]) <;> rfl
set_option maxRecDepth 100000 in
set_option maxHeartbeats 4000000 in
theorem q_Md_near_2 {c : Nat} (hc : isChap c) {k6 : Nat → Int32 → Int32 → Int32 → Int32 → hm_M → Option (Int32 × hm_M)} {K6 : Nat → Int32 → Int32 → Int32 → Int32 → hn → Option (Int32 × hn)} (hk6 : ∀ (v1 : Nat) (v2 : Int32) (v3 : Int32) (v4 : Int32) (v5 : Int32) (N : hn), k6 v1 v2 v3 v4 v5 (N.1, N.2, rT c) = em c (K6 v1 v2 v3 v4 v5 N)) {v1 : Nat} {v2 : Int32} {v3 : Int32} {v5 : Int32} {s0 : Int32} {s1 : Int32} {N : hn} : b_Md_near_2 S0 k6 v1 v2 v3 v5 s0 s1 (N.1, N.2, rT c) = em c (B_Md_near_2 c K6 v1 v2 v3 v5 s0 s1 N) := by
  unfold b_Md_near_2 B_Md_near_2
  (simp only [hl_n, hl_wI, hl_wL, hl_cp, em_s, em_n, em_g, em_i, em_l, em_b, em_v, emv_s, emv_n, emv_g, emv_i, emv_l, emv_b, emv_v, hb_em, hv_em, hg_T, ne_eq, not_false_eq_true, nz_c, S0_c, S0_lw, S0_h, isHold_36, hc, hc.d, hc.l, hc.d.l, nz_1, nz_2, nz_3, nz_4, nz_5, nz_6, nz_7, nz_8, S0_76, q_Md_steps hc, hk6]) <;> rfl
set_option maxRecDepth 100000 in
set_option maxHeartbeats 4000000 in
theorem r_Md_near_1 {c : Nat} (hc : isChap c) {k6 : Nat → Int32 → Int32 → Int32 → Int32 → hm_M → Option (Int32 × hm_M)} {K6 : Nat → Int32 → Int32 → Int32 → Int32 → hn → Option (Int32 × hn)} (hk6 : ∀ (v1 : Nat) (v2 : Int32) (v3 : Int32) (v4 : Int32) (v5 : Int32) (N : hn), k6 v1 v2 v3 v4 v5 (N.1, N.2, rT c) = em c (K6 v1 v2 v3 v4 v5 N)) {v1 : Nat} {v2 : Int32} {v3 : Int32} {v4 : Int32} {v5 : Int32} {N : hn} : b_Md_near_1 S0 k6 v1 v2 v3 v4 v5 (N.1, N.2, rT c) = em c (B_Md_near_1 c K6 v1 v2 v3 v4 v5 N) := by
  unfold b_Md_near_1 B_Md_near_1
  (simp only [hl_n, hl_wI, hl_wL, hl_cp, em_s, em_n, em_g, em_i, em_l, em_b, em_v, emv_s, emv_n, emv_g, emv_i, emv_l, emv_b, emv_v, hb_em, hv_em, hg_T, ne_eq, not_false_eq_true, nz_c, S0_c, S0_lw, S0_h, isHold_36, hc, hc.d, hc.l, hc.d.l, nz_1, nz_2, nz_3, nz_4, nz_5, nz_6, nz_7, nz_8, S0_76, q_Md_steps hc, hk6, q_Md_near_2 hc hk6]) <;> rfl
theorem q_Md_near_1 {c : Nat} (hc : isChap c) : ∀ (n : Nat) (v1 : Nat) (v2 : Int32) (v3 : Int32) (v4 : Int32) (v5 : Int32) (N : hn), f_Md_near_1 S0 n v1 v2 v3 v4 v5 (N.1, N.2, rT c) = em c (F_Md_near_1 c n v1 v2 v3 v4 v5 N) := by
  intro n
  induction n with
  | zero => intros; rfl
  | succ n ih => intro v1 v2 v3 v4 v5 N ; exact r_Md_near_1 hc  ih 
set_option maxRecDepth 100000 in
set_option maxHeartbeats 4000000 in
theorem q_Md_near {c : Nat} (hc : isChap c) {v1 : Nat} {v2 : Int32} {v3 : Int32} {N : hn} : f_Md_near S0 76 v1 v2 v3 (N.1, N.2, rT c) = em c (F_Md_near c v1 v2 v3 N) := by
  unfold f_Md_near F_Md_near
  (simp only [hl_n, hl_wI, hl_wL, hl_cp, em_s, em_n, em_g, em_i, em_l, em_b, em_v, emv_s, emv_n, emv_g, emv_i, emv_l, emv_b, emv_v, hb_em, hv_em, hg_T, ne_eq, not_false_eq_true, nz_c, S0_c, S0_lw, S0_h, isHold_36, hc, hc.d, hc.l, hc.d.l, nz_1, nz_2, nz_3, nz_4, nz_5, nz_6, nz_7, nz_8, S0_76, q_Md_steps hc, q_Md_near_1 hc]) <;> rfl
set_option maxRecDepth 100000 in
set_option maxHeartbeats 4000000 in
theorem r_Md_findStains_11 {c : Nat} (hc : isChap c) {k258 : Nat → Int32 → Int32 → hm_M → Option (Int32 × hm_M)} {K258 : Int32 → Int32 → hn → Option (Int32 × hn)} (hk258 : ∀ (v5 : Int32) (v6 : Int32) (N : hn), k258 76 v5 v6 (N.1, N.2, rT c) = em c (K258 v5 v6 N)) {v5 : Int32} {v6 : Int32} {N : hn} : b_Md_findStains_11 S0 k258 76 v5 v6 (N.1, N.2, rT c) = em c (B_Md_findStains_11 c K258 v5 v6 N) := by
  unfold b_Md_findStains_11 B_Md_findStains_11
  (simp only [hl_n, hl_wI, hl_wL, hl_cp, em_s, em_n, em_g, em_i, em_l, em_b, em_v, emv_s, emv_n, emv_g, emv_i, emv_l, emv_b, emv_v, hb_em, hv_em, hg_T, ne_eq, not_false_eq_true, nz_c, S0_c, S0_lw, S0_h, isHold_36, hc, hc.d, hc.l, hc.d.l, nz_1, nz_2, nz_3, nz_4, nz_5, nz_6, nz_7, nz_8, S0_76, ib_96, ib_97, ib_98, q_Md_findLight hc, q_Md_isPlace hc, q_Md_lightAt hc, q_Md_near hc, rT_76_31, rT_76_32, rT_76_33, hk258]) <;> rfl
theorem q_Md_findStains_11 {c : Nat} (hc : isChap c) : ∀ (n : Nat) (v5 : Int32) (v6 : Int32) (N : hn), f_Md_findStains_11 S0 n 76 v5 v6 (N.1, N.2, rT c) = em c (F_Md_findStains_11 c n v5 v6 N) := by
  intro n
  induction n with
  | zero => intros; rfl
  | succ n ih => intro v5 v6 N ; exact r_Md_findStains_11 hc  ih 
set_option maxRecDepth 100000 in
set_option maxHeartbeats 4000000 in
theorem q_Md_findStains_10 {c : Nat} (hc : isChap c) {k178 : Nat → Int32 → hm_M → Option (Int32 × hm_M)} {K178 : Int32 → hn → Option (Int32 × hn)} (hk178 : ∀ (v5 : Int32) (N : hn), k178 76 v5 (N.1, N.2, rT c) = em c (K178 v5 N)) {k186 : Nat → Int32 → Int32 → hm_M → Option (Int32 × hm_M)} {K186 : Int32 → Int32 → hn → Option (Int32 × hn)} (hk186 : ∀ (v5 : Int32) (v6 : Int32) (N : hn), k186 76 v5 v6 (N.1, N.2, rT c) = em c (K186 v5 v6 N)) {v5 : Int32} {v6 : Int32} {s0 : Int32} {s1 : Int32} {N : hn} : b_Md_findStains_10 S0 k178 k186 76 v5 v6 s0 s1 97 (N.1, N.2, rT c) = em c (B_Md_findStains_10 c K178 K186 v5 v6 s0 s1 N) := by
  unfold b_Md_findStains_10 B_Md_findStains_10
  (simp only [hl_n, hl_wI, hl_wL, hl_cp, em_s, em_n, em_g, em_i, em_l, em_b, em_v, emv_s, emv_n, emv_g, emv_i, emv_l, emv_b, emv_v, hb_em, hv_em, hg_T, ne_eq, not_false_eq_true, nz_c, S0_c, S0_lw, S0_h, isHold_36, hc, hc.d, hc.l, hc.d.l, nz_1, nz_2, nz_3, nz_4, nz_5, nz_6, nz_7, nz_8, S0_76, ib_96, ib_97, ib_98, q_Md_findLight hc, q_Md_isPlace hc, q_Md_lightAt hc, q_Md_near hc, rT_76_31, rT_76_32, rT_76_33, hk178, hk186, q_Md_findStains_11 hc]) <;> rfl
set_option maxRecDepth 100000 in
set_option maxHeartbeats 4000000 in
theorem r_Md_findStains_9 {c : Nat} (hc : isChap c) {k178 : Nat → Int32 → hm_M → Option (Int32 × hm_M)} {K178 : Int32 → hn → Option (Int32 × hn)} (hk178 : ∀ (v5 : Int32) (N : hn), k178 76 v5 (N.1, N.2, rT c) = em c (K178 v5 N)) {k186 : Nat → Int32 → Int32 → hm_M → Option (Int32 × hm_M)} {K186 : Int32 → Int32 → hn → Option (Int32 × hn)} (hk186 : ∀ (v5 : Int32) (v6 : Int32) (N : hn), k186 76 v5 v6 (N.1, N.2, rT c) = em c (K186 v5 v6 N)) {v5 : Int32} {v6 : Int32} {N : hn} : b_Md_findStains_9 S0 k178 k186 76 v5 v6 (N.1, N.2, rT c) = em c (B_Md_findStains_9 c K178 K186 v5 v6 N) := by
  unfold b_Md_findStains_9 B_Md_findStains_9
  (simp only [hl_n, hl_wI, hl_wL, hl_cp, em_s, em_n, em_g, em_i, em_l, em_b, em_v, emv_s, emv_n, emv_g, emv_i, emv_l, emv_b, emv_v, hb_em, hv_em, hg_T, ne_eq, not_false_eq_true, nz_c, S0_c, S0_lw, S0_h, isHold_36, hc, hc.d, hc.l, hc.d.l, nz_1, nz_2, nz_3, nz_4, nz_5, nz_6, nz_7, nz_8, S0_76, ib_96, ib_97, ib_98, q_Md_findLight hc, q_Md_isPlace hc, q_Md_lightAt hc, q_Md_near hc, rT_76_31, rT_76_32, rT_76_33, hk178, hk186, q_Md_findStains_11 hc, q_Md_findStains_10 hc hk178 hk186]) <;> rfl
theorem q_Md_findStains_9 {c : Nat} (hc : isChap c) {k178 : Nat → Int32 → hm_M → Option (Int32 × hm_M)} {K178 : Int32 → hn → Option (Int32 × hn)} (hk178 : ∀ (v5 : Int32) (N : hn), k178 76 v5 (N.1, N.2, rT c) = em c (K178 v5 N)) : ∀ (n : Nat) (v5 : Int32) (v6 : Int32) (N : hn), f_Md_findStains_9 S0 k178 n 76 v5 v6 (N.1, N.2, rT c) = em c (F_Md_findStains_9 c K178 n v5 v6 N) := by
  intro n
  induction n with
  | zero => intros; rfl
  | succ n ih => intro v5 v6 N ; exact r_Md_findStains_9 hc hk178 ih 
set_option maxRecDepth 100000 in
set_option maxHeartbeats 4000000 in
theorem r_Md_findStains_8 {c : Nat} (hc : isChap c) {k178 : Nat → Int32 → hm_M → Option (Int32 × hm_M)} {K178 : Int32 → hn → Option (Int32 × hn)} (hk178 : ∀ (v5 : Int32) (N : hn), k178 76 v5 (N.1, N.2, rT c) = em c (K178 v5 N)) {v5 : Int32} {N : hn} : b_Md_findStains_8 S0 k178 76 v5 (N.1, N.2, rT c) = em c (B_Md_findStains_8 c K178 v5 N) := by
  unfold b_Md_findStains_8 B_Md_findStains_8
  (simp only [hl_n, hl_wI, hl_wL, hl_cp, em_s, em_n, em_g, em_i, em_l, em_b, em_v, emv_s, emv_n, emv_g, emv_i, emv_l, emv_b, emv_v, hb_em, hv_em, hg_T, ne_eq, not_false_eq_true, nz_c, S0_c, S0_lw, S0_h, isHold_36, hc, hc.d, hc.l, hc.d.l, nz_1, nz_2, nz_3, nz_4, nz_5, nz_6, nz_7, nz_8, S0_76, ib_96, ib_97, ib_98, q_Md_findLight hc, q_Md_isPlace hc, q_Md_lightAt hc, q_Md_near hc, rT_76_31, rT_76_32, rT_76_33, hk178, q_Md_findStains_11 hc, q_Md_findStains_9 hc hk178]) <;> rfl
theorem q_Md_findStains_8 {c : Nat} (hc : isChap c) : ∀ (n : Nat) (v5 : Int32) (N : hn), f_Md_findStains_8 S0 n 76 v5 (N.1, N.2, rT c) = em c (F_Md_findStains_8 c n v5 N) := by
  intro n
  induction n with
  | zero => intros; rfl
  | succ n ih => intro v5 N ; exact r_Md_findStains_8 hc  ih 
set_option maxRecDepth 100000 in
set_option maxHeartbeats 4000000 in
theorem q_Md_findStains_7 {c : Nat} (hc : isChap c) {k3 : Nat → Int32 → Int32 → Int32 → Int32 → Int32 → hm_M → Option (Int32 × hm_M)} {K3 : Int32 → Int32 → Int32 → Int32 → Int32 → hn → Option (Int32 × hn)} (hk3 : ∀ (v1 : Int32) (v2 : Int32) (v3 : Int32) (v4 : Int32) (v5 : Int32) (N : hn), k3 76 v1 v2 v3 v4 v5 (N.1, N.2, rT c) = em c (K3 v1 v2 v3 v4 v5 N)) {k21 : Nat → Int32 → Int32 → Int32 → Int32 → Int32 → Int32 → hm_M → Option (Int32 × hm_M)} {K21 : Int32 → Int32 → Int32 → Int32 → Int32 → Int32 → hn → Option (Int32 × hn)} (hk21 : ∀ (v1 : Int32) (v2 : Int32) (v3 : Int32) (v4 : Int32) (v5 : Int32) (v6 : Int32) (N : hn), k21 76 v1 v2 v3 v4 v5 v6 (N.1, N.2, rT c) = em c (K21 v1 v2 v3 v4 v5 v6 N)) {v1 : Int32} {v2 : Int32} {v3 : Int32} {v4 : Int32} {v5 : Int32} {v6 : Int32} {s0 : Int32} {s1 : Int32} {N : hn} : b_Md_findStains_7 S0 k3 k21 76 v1 v2 v3 v4 v5 v6 s0 s1 97 (N.1, N.2, rT c) = em c (B_Md_findStains_7 c K3 K21 v1 v2 v3 v4 v5 v6 s0 s1 N) := by
  unfold b_Md_findStains_7 B_Md_findStains_7
  (simp only [hl_n, hl_wI, hl_wL, hl_cp, em_s, em_n, em_g, em_i, em_l, em_b, em_v, emv_s, emv_n, emv_g, emv_i, emv_l, emv_b, emv_v, hb_em, hv_em, hg_T, ne_eq, not_false_eq_true, nz_c, S0_c, S0_lw, S0_h, isHold_36, hc, hc.d, hc.l, hc.d.l, nz_1, nz_2, nz_3, nz_4, nz_5, nz_6, nz_7, nz_8, S0_76, ib_96, ib_97, ib_98, q_Md_findLight hc, q_Md_isPlace hc, q_Md_lightAt hc, q_Md_near hc, rT_76_31, rT_76_32, rT_76_33, hk3, hk21, q_Md_findStains_11 hc, q_Md_findStains_8 hc]) <;> rfl
set_option maxRecDepth 100000 in
set_option maxHeartbeats 4000000 in
theorem q_Md_findStains_6 {c : Nat} (hc : isChap c) {k3 : Nat → Int32 → Int32 → Int32 → Int32 → Int32 → hm_M → Option (Int32 × hm_M)} {K3 : Int32 → Int32 → Int32 → Int32 → Int32 → hn → Option (Int32 × hn)} (hk3 : ∀ (v1 : Int32) (v2 : Int32) (v3 : Int32) (v4 : Int32) (v5 : Int32) (N : hn), k3 76 v1 v2 v3 v4 v5 (N.1, N.2, rT c) = em c (K3 v1 v2 v3 v4 v5 N)) {k21 : Nat → Int32 → Int32 → Int32 → Int32 → Int32 → Int32 → hm_M → Option (Int32 × hm_M)} {K21 : Int32 → Int32 → Int32 → Int32 → Int32 → Int32 → hn → Option (Int32 × hn)} (hk21 : ∀ (v1 : Int32) (v2 : Int32) (v3 : Int32) (v4 : Int32) (v5 : Int32) (v6 : Int32) (N : hn), k21 76 v1 v2 v3 v4 v5 v6 (N.1, N.2, rT c) = em c (K21 v1 v2 v3 v4 v5 v6 N)) {v1 : Int32} {v2 : Int32} {v3 : Int32} {v4 : Int32} {v5 : Int32} {v6 : Int32} {v7 : Int32} {s0 : Int32} {s1 : Int32} {N : hn} : b_Md_findStains_6 S0 k3 k21 76 v1 v2 v3 v4 v5 v6 v7 s0 s1 96 (N.1, N.2, rT c) = em c (B_Md_findStains_6 c K3 K21 v1 v2 v3 v4 v5 v6 v7 s0 s1 N) := by
  unfold b_Md_findStains_6 B_Md_findStains_6
  (simp only [hl_n, hl_wI, hl_wL, hl_cp, em_s, em_n, em_g, em_i, em_l, em_b, em_v, emv_s, emv_n, emv_g, emv_i, emv_l, emv_b, emv_v, hb_em, hv_em, hg_T, ne_eq, not_false_eq_true, nz_c, S0_c, S0_lw, S0_h, isHold_36, hc, hc.d, hc.l, hc.d.l, nz_1, nz_2, nz_3, nz_4, nz_5, nz_6, nz_7, nz_8, S0_76, ib_96, ib_97, ib_98, q_Md_findLight hc, q_Md_isPlace hc, q_Md_lightAt hc, q_Md_near hc, rT_76_31, rT_76_32, rT_76_33, hk3, hk21, q_Md_findStains_11 hc, q_Md_findStains_8 hc, q_Md_findStains_7 hc hk3 hk21]) <;> rfl
set_option maxRecDepth 100000 in
set_option maxHeartbeats 4000000 in
theorem q_Md_findStains_5 {c : Nat} (hc : isChap c) {k3 : Nat → Int32 → Int32 → Int32 → Int32 → Int32 → hm_M → Option (Int32 × hm_M)} {K3 : Int32 → Int32 → Int32 → Int32 → Int32 → hn → Option (Int32 × hn)} (hk3 : ∀ (v1 : Int32) (v2 : Int32) (v3 : Int32) (v4 : Int32) (v5 : Int32) (N : hn), k3 76 v1 v2 v3 v4 v5 (N.1, N.2, rT c) = em c (K3 v1 v2 v3 v4 v5 N)) {k21 : Nat → Int32 → Int32 → Int32 → Int32 → Int32 → Int32 → hm_M → Option (Int32 × hm_M)} {K21 : Int32 → Int32 → Int32 → Int32 → Int32 → Int32 → hn → Option (Int32 × hn)} (hk21 : ∀ (v1 : Int32) (v2 : Int32) (v3 : Int32) (v4 : Int32) (v5 : Int32) (v6 : Int32) (N : hn), k21 76 v1 v2 v3 v4 v5 v6 (N.1, N.2, rT c) = em c (K21 v1 v2 v3 v4 v5 v6 N)) {v1 : Int32} {v2 : Int32} {v3 : Int32} {v4 : Int32} {v5 : Int32} {v6 : Int32} {v7 : Int32} {s0 : Int32} {s1 : Int32} {N : hn} : b_Md_findStains_5 S0 k3 k21 76 v1 v2 v3 v4 v5 v6 v7 s0 s1 98 (N.1, N.2, rT c) = em c (B_Md_findStains_5 c K3 K21 v1 v2 v3 v4 v5 v6 v7 s0 s1 N) := by
  unfold b_Md_findStains_5 B_Md_findStains_5
  (simp only [hl_n, hl_wI, hl_wL, hl_cp, em_s, em_n, em_g, em_i, em_l, em_b, em_v, emv_s, emv_n, emv_g, emv_i, emv_l, emv_b, emv_v, hb_em, hv_em, hg_T, ne_eq, not_false_eq_true, nz_c, S0_c, S0_lw, S0_h, isHold_36, hc, hc.d, hc.l, hc.d.l, nz_1, nz_2, nz_3, nz_4, nz_5, nz_6, nz_7, nz_8, S0_76, ib_96, ib_97, ib_98, q_Md_findLight hc, q_Md_isPlace hc, q_Md_lightAt hc, q_Md_near hc, rT_76_31, rT_76_32, rT_76_33, hk3, hk21, q_Md_findStains_11 hc, q_Md_findStains_8 hc, q_Md_findStains_7 hc hk3 hk21, q_Md_findStains_6 hc hk3 hk21]) <;> rfl
set_option maxRecDepth 100000 in
set_option maxHeartbeats 4000000 in
theorem q_Md_findStains_4 {c : Nat} (hc : isChap c) {k3 : Nat → Int32 → Int32 → Int32 → Int32 → Int32 → hm_M → Option (Int32 × hm_M)} {K3 : Int32 → Int32 → Int32 → Int32 → Int32 → hn → Option (Int32 × hn)} (hk3 : ∀ (v1 : Int32) (v2 : Int32) (v3 : Int32) (v4 : Int32) (v5 : Int32) (N : hn), k3 76 v1 v2 v3 v4 v5 (N.1, N.2, rT c) = em c (K3 v1 v2 v3 v4 v5 N)) {k21 : Nat → Int32 → Int32 → Int32 → Int32 → Int32 → Int32 → hm_M → Option (Int32 × hm_M)} {K21 : Int32 → Int32 → Int32 → Int32 → Int32 → Int32 → hn → Option (Int32 × hn)} (hk21 : ∀ (v1 : Int32) (v2 : Int32) (v3 : Int32) (v4 : Int32) (v5 : Int32) (v6 : Int32) (N : hn), k21 76 v1 v2 v3 v4 v5 v6 (N.1, N.2, rT c) = em c (K21 v1 v2 v3 v4 v5 v6 N)) {v1 : Int32} {v2 : Int32} {v3 : Int32} {v4 : Int32} {v5 : Int32} {v6 : Int32} {s0 : Int32} {N : hn} : b_Md_findStains_4 S0 k3 k21 76 v1 v2 v3 v4 v5 v6 s0 (N.1, N.2, rT c) = em c (B_Md_findStains_4 c K3 K21 v1 v2 v3 v4 v5 v6 s0 N) := by
  unfold b_Md_findStains_4 B_Md_findStains_4
  (simp only [hl_n, hl_wI, hl_wL, hl_cp, em_s, em_n, em_g, em_i, em_l, em_b, em_v, emv_s, emv_n, emv_g, emv_i, emv_l, emv_b, emv_v, hb_em, hv_em, hg_T, ne_eq, not_false_eq_true, nz_c, S0_c, S0_lw, S0_h, isHold_36, hc, hc.d, hc.l, hc.d.l, nz_1, nz_2, nz_3, nz_4, nz_5, nz_6, nz_7, nz_8, S0_76, ib_96, ib_97, ib_98, q_Md_findLight hc, q_Md_isPlace hc, q_Md_lightAt hc, q_Md_near hc, rT_76_31, rT_76_32, rT_76_33, hk3, hk21, q_Md_findStains_11 hc, q_Md_findStains_8 hc, q_Md_findStains_7 hc hk3 hk21, q_Md_findStains_6 hc hk3 hk21, q_Md_findStains_5 hc hk3 hk21]) <;> rfl
set_option maxRecDepth 100000 in
set_option maxHeartbeats 4000000 in
theorem q_Md_findStains_3 {c : Nat} (hc : isChap c) {k3 : Nat → Int32 → Int32 → Int32 → Int32 → Int32 → hm_M → Option (Int32 × hm_M)} {K3 : Int32 → Int32 → Int32 → Int32 → Int32 → hn → Option (Int32 × hn)} (hk3 : ∀ (v1 : Int32) (v2 : Int32) (v3 : Int32) (v4 : Int32) (v5 : Int32) (N : hn), k3 76 v1 v2 v3 v4 v5 (N.1, N.2, rT c) = em c (K3 v1 v2 v3 v4 v5 N)) {k21 : Nat → Int32 → Int32 → Int32 → Int32 → Int32 → Int32 → hm_M → Option (Int32 × hm_M)} {K21 : Int32 → Int32 → Int32 → Int32 → Int32 → Int32 → hn → Option (Int32 × hn)} (hk21 : ∀ (v1 : Int32) (v2 : Int32) (v3 : Int32) (v4 : Int32) (v5 : Int32) (v6 : Int32) (N : hn), k21 76 v1 v2 v3 v4 v5 v6 (N.1, N.2, rT c) = em c (K21 v1 v2 v3 v4 v5 v6 N)) {v1 : Int32} {v2 : Int32} {v3 : Int32} {v4 : Int32} {v5 : Int32} {v6 : Int32} {N : hn} : b_Md_findStains_3 S0 k3 k21 76 v1 v2 v3 v4 v5 v6 (N.1, N.2, rT c) = em c (B_Md_findStains_3 c K3 K21 v1 v2 v3 v4 v5 v6 N) := by
  unfold b_Md_findStains_3 B_Md_findStains_3
  (simp only [hl_n, hl_wI, hl_wL, hl_cp, em_s, em_n, em_g, em_i, em_l, em_b, em_v, emv_s, emv_n, emv_g, emv_i, emv_l, emv_b, emv_v, hb_em, hv_em, hg_T, ne_eq, not_false_eq_true, nz_c, S0_c, S0_lw, S0_h, isHold_36, hc, hc.d, hc.l, hc.d.l, nz_1, nz_2, nz_3, nz_4, nz_5, nz_6, nz_7, nz_8, S0_76, ib_96, ib_97, ib_98, q_Md_findLight hc, q_Md_isPlace hc, q_Md_lightAt hc, q_Md_near hc, rT_76_31, rT_76_32, rT_76_33, hk3, hk21, q_Md_findStains_11 hc, q_Md_findStains_8 hc, q_Md_findStains_7 hc hk3 hk21, q_Md_findStains_6 hc hk3 hk21, q_Md_findStains_5 hc hk3 hk21, q_Md_findStains_4 hc hk3 hk21]) <;> rfl
set_option maxRecDepth 100000 in
set_option maxHeartbeats 4000000 in
theorem r_Md_findStains_2 {c : Nat} (hc : isChap c) {k3 : Nat → Int32 → Int32 → Int32 → Int32 → Int32 → hm_M → Option (Int32 × hm_M)} {K3 : Int32 → Int32 → Int32 → Int32 → Int32 → hn → Option (Int32 × hn)} (hk3 : ∀ (v1 : Int32) (v2 : Int32) (v3 : Int32) (v4 : Int32) (v5 : Int32) (N : hn), k3 76 v1 v2 v3 v4 v5 (N.1, N.2, rT c) = em c (K3 v1 v2 v3 v4 v5 N)) {k21 : Nat → Int32 → Int32 → Int32 → Int32 → Int32 → Int32 → hm_M → Option (Int32 × hm_M)} {K21 : Int32 → Int32 → Int32 → Int32 → Int32 → Int32 → hn → Option (Int32 × hn)} (hk21 : ∀ (v1 : Int32) (v2 : Int32) (v3 : Int32) (v4 : Int32) (v5 : Int32) (v6 : Int32) (N : hn), k21 76 v1 v2 v3 v4 v5 v6 (N.1, N.2, rT c) = em c (K21 v1 v2 v3 v4 v5 v6 N)) {v1 : Int32} {v2 : Int32} {v3 : Int32} {v4 : Int32} {v5 : Int32} {v6 : Int32} {N : hn} : b_Md_findStains_2 S0 k3 k21 76 v1 v2 v3 v4 v5 v6 (N.1, N.2, rT c) = em c (B_Md_findStains_2 c K3 K21 v1 v2 v3 v4 v5 v6 N) := by
  unfold b_Md_findStains_2 B_Md_findStains_2
  (simp only [hl_n, hl_wI, hl_wL, hl_cp, em_s, em_n, em_g, em_i, em_l, em_b, em_v, emv_s, emv_n, emv_g, emv_i, emv_l, emv_b, emv_v, hb_em, hv_em, hg_T, ne_eq, not_false_eq_true, nz_c, S0_c, S0_lw, S0_h, isHold_36, hc, hc.d, hc.l, hc.d.l, nz_1, nz_2, nz_3, nz_4, nz_5, nz_6, nz_7, nz_8, S0_76, ib_96, ib_97, ib_98, q_Md_findLight hc, q_Md_isPlace hc, q_Md_lightAt hc, q_Md_near hc, rT_76_31, rT_76_32, rT_76_33, hk3, hk21, q_Md_findStains_11 hc, q_Md_findStains_8 hc, q_Md_findStains_7 hc hk3 hk21, q_Md_findStains_6 hc hk3 hk21, q_Md_findStains_5 hc hk3 hk21, q_Md_findStains_4 hc hk3 hk21, q_Md_findStains_3 hc hk3 hk21]) <;> rfl
theorem q_Md_findStains_2 {c : Nat} (hc : isChap c) {k3 : Nat → Int32 → Int32 → Int32 → Int32 → Int32 → hm_M → Option (Int32 × hm_M)} {K3 : Int32 → Int32 → Int32 → Int32 → Int32 → hn → Option (Int32 × hn)} (hk3 : ∀ (v1 : Int32) (v2 : Int32) (v3 : Int32) (v4 : Int32) (v5 : Int32) (N : hn), k3 76 v1 v2 v3 v4 v5 (N.1, N.2, rT c) = em c (K3 v1 v2 v3 v4 v5 N)) : ∀ (n : Nat) (v1 : Int32) (v2 : Int32) (v3 : Int32) (v4 : Int32) (v5 : Int32) (v6 : Int32) (N : hn), f_Md_findStains_2 S0 k3 n 76 v1 v2 v3 v4 v5 v6 (N.1, N.2, rT c) = em c (F_Md_findStains_2 c K3 n v1 v2 v3 v4 v5 v6 N) := by
  intro n
  induction n with
  | zero => intros; rfl
  | succ n ih => intro v1 v2 v3 v4 v5 v6 N ; exact r_Md_findStains_2 hc hk3 ih 
set_option maxRecDepth 100000 in
set_option maxHeartbeats 4000000 in
theorem r_Md_findStains_1 {c : Nat} (hc : isChap c) {k3 : Nat → Int32 → Int32 → Int32 → Int32 → Int32 → hm_M → Option (Int32 × hm_M)} {K3 : Int32 → Int32 → Int32 → Int32 → Int32 → hn → Option (Int32 × hn)} (hk3 : ∀ (v1 : Int32) (v2 : Int32) (v3 : Int32) (v4 : Int32) (v5 : Int32) (N : hn), k3 76 v1 v2 v3 v4 v5 (N.1, N.2, rT c) = em c (K3 v1 v2 v3 v4 v5 N)) {v1 : Int32} {v2 : Int32} {v3 : Int32} {v4 : Int32} {v5 : Int32} {N : hn} : b_Md_findStains_1 S0 k3 76 v1 v2 v3 v4 v5 (N.1, N.2, rT c) = em c (B_Md_findStains_1 c K3 v1 v2 v3 v4 v5 N) := by
  unfold b_Md_findStains_1 B_Md_findStains_1
  (simp only [hl_n, hl_wI, hl_wL, hl_cp, em_s, em_n, em_g, em_i, em_l, em_b, em_v, emv_s, emv_n, emv_g, emv_i, emv_l, emv_b, emv_v, hb_em, hv_em, hg_T, ne_eq, not_false_eq_true, nz_c, S0_c, S0_lw, S0_h, isHold_36, hc, hc.d, hc.l, hc.d.l, nz_1, nz_2, nz_3, nz_4, nz_5, nz_6, nz_7, nz_8, S0_76, ib_96, ib_97, ib_98, q_Md_findLight hc, q_Md_isPlace hc, q_Md_lightAt hc, q_Md_near hc, rT_76_31, rT_76_32, rT_76_33, hk3, q_Md_findStains_11 hc, q_Md_findStains_8 hc, q_Md_findStains_2 hc hk3]) <;> rfl
theorem q_Md_findStains_1 {c : Nat} (hc : isChap c) : ∀ (n : Nat) (v1 : Int32) (v2 : Int32) (v3 : Int32) (v4 : Int32) (v5 : Int32) (N : hn), f_Md_findStains_1 S0 n 76 v1 v2 v3 v4 v5 (N.1, N.2, rT c) = em c (F_Md_findStains_1 c n v1 v2 v3 v4 v5 N) := by
  intro n
  induction n with
  | zero => intros; rfl
  | succ n ih => intro v1 v2 v3 v4 v5 N ; exact r_Md_findStains_1 hc  ih 
set_option maxRecDepth 100000 in
set_option maxHeartbeats 4000000 in
theorem q_Md_findStains {c : Nat} (hc : isChap c) {v1 : Int32} {v2 : Int32} {v3 : Int32} {v4 : Int32} {N : hn} : f_Md_findStains S0 76 v1 v2 v3 v4 (N.1, N.2, rT c) = em c (F_Md_findStains c v1 v2 v3 v4 N) := by
  unfold f_Md_findStains F_Md_findStains
  (simp only [hl_n, hl_wI, hl_wL, hl_cp, em_s, em_n, em_g, em_i, em_l, em_b, em_v, emv_s, emv_n, emv_g, emv_i, emv_l, emv_b, emv_v, hb_em, hv_em, hg_T, ne_eq, not_false_eq_true, nz_c, S0_c, S0_lw, S0_h, isHold_36, hc, hc.d, hc.l, hc.d.l, nz_1, nz_2, nz_3, nz_4, nz_5, nz_6, nz_7, nz_8, S0_76, ib_96, ib_97, ib_98, q_Md_findLight hc, q_Md_isPlace hc, q_Md_lightAt hc, q_Md_near hc, rT_76_31, rT_76_32, rT_76_33, q_Md_findStains_1 hc, q_Md_findStains_8 hc, q_Md_findStains_11 hc]) <;> rfl
set_option maxRecDepth 100000 in
set_option maxHeartbeats 4000000 in
theorem q_Md_gain {c : Nat} (hc : isChap c) {v1 : Int32} {v2 : Int32} {N : hn} : f_Md_gain S0 76 v1 v2 (N.1, N.2, rT c) = em c (F_Md_gain c v1 v2 N) := by
  unfold f_Md_gain F_Md_gain
  (simp only [hl_n, hl_wI, hl_wL, hl_cp, em_s, em_n, em_g, em_i, em_l, em_b, em_v, emv_s, emv_n, emv_g, emv_i, emv_l, emv_b, emv_v, hb_em, hv_em, hg_T, ne_eq, not_false_eq_true, nz_c, S0_c, S0_lw, S0_h, isHold_36, hc, hc.d, hc.l, hc.d.l, nz_1, nz_2, nz_3, nz_4, nz_5, nz_6, nz_7, nz_8, S0_76, q_Md_areUnlike hc, q_Md_findYields hc, q_Md_gainOf hc]) <;> rfl
set_option maxRecDepth 100000 in
set_option maxHeartbeats 4000000 in
theorem q_Md_guild_2 {c : Nat} (hc : isChap c) {k29 : Nat → Int32 → Int32 → Int32 → Int32 → hm_M → Option (Int32 × hm_M)} {K29 : Int32 → Int32 → Int32 → Int32 → hn → Option (Int32 × hn)} (hk29 : ∀ (v1 : Int32) (v2 : Int32) (v3 : Int32) (v4 : Int32) (N : hn), k29 76 v1 v2 v3 v4 (N.1, N.2, rT c) = em c (K29 v1 v2 v3 v4 N)) {v1 : Int32} {v2 : Int32} {v4 : Int32} {s0 : Int32} {s1 : Int32} {N : hn} : b_Md_guild_2 S0 k29 76 v1 v2 v4 s0 s1 (N.1, N.2, rT c) = em c (B_Md_guild_2 c K29 v1 v2 v4 s0 s1 N) := by
  unfold b_Md_guild_2 B_Md_guild_2
  (simp only [hl_n, hl_wI, hl_wL, hl_cp, em_s, em_n, em_g, em_i, em_l, em_b, em_v, emv_s, emv_n, emv_g, emv_i, emv_l, emv_b, emv_v, hb_em, hv_em, hg_T, ne_eq, not_false_eq_true, nz_c, S0_c, S0_lw, S0_h, isHold_36, hc, hc.d, hc.l, hc.d.l, nz_1, nz_2, nz_3, nz_4, nz_5, nz_6, nz_7, nz_8, S0_76, ib_82, q_Md_isGuild hc, q_Md_ownerOf hc, q_Md_panes hc, q_Md_within hc, rT_76_10, hk29]) <;> rfl
set_option maxRecDepth 100000 in
set_option maxHeartbeats 4000000 in
theorem r_Md_guild_1 {c : Nat} (hc : isChap c) {k29 : Nat → Int32 → Int32 → Int32 → Int32 → hm_M → Option (Int32 × hm_M)} {K29 : Int32 → Int32 → Int32 → Int32 → hn → Option (Int32 × hn)} (hk29 : ∀ (v1 : Int32) (v2 : Int32) (v3 : Int32) (v4 : Int32) (N : hn), k29 76 v1 v2 v3 v4 (N.1, N.2, rT c) = em c (K29 v1 v2 v3 v4 N)) {v1 : Int32} {v2 : Int32} {v3 : Int32} {v4 : Int32} {N : hn} : b_Md_guild_1 S0 k29 76 v1 v2 v3 v4 (N.1, N.2, rT c) = em c (B_Md_guild_1 c K29 v1 v2 v3 v4 N) := by
  unfold b_Md_guild_1 B_Md_guild_1
  (simp only [hl_n, hl_wI, hl_wL, hl_cp, em_s, em_n, em_g, em_i, em_l, em_b, em_v, emv_s, emv_n, emv_g, emv_i, emv_l, emv_b, emv_v, hb_em, hv_em, hg_T, ne_eq, not_false_eq_true, nz_c, S0_c, S0_lw, S0_h, isHold_36, hc, hc.d, hc.l, hc.d.l, nz_1, nz_2, nz_3, nz_4, nz_5, nz_6, nz_7, nz_8, S0_76, ib_82, q_Md_isGuild hc, q_Md_ownerOf hc, q_Md_panes hc, q_Md_within hc, rT_76_10, hk29, q_Md_guild_2 hc hk29]) <;> rfl
theorem q_Md_guild_1 {c : Nat} (hc : isChap c) : ∀ (n : Nat) (v1 : Int32) (v2 : Int32) (v3 : Int32) (v4 : Int32) (N : hn), f_Md_guild_1 S0 n 76 v1 v2 v3 v4 (N.1, N.2, rT c) = em c (F_Md_guild_1 c n v1 v2 v3 v4 N) := by
  intro n
  induction n with
  | zero => intros; rfl
  | succ n ih => intro v1 v2 v3 v4 N ; exact r_Md_guild_1 hc  ih 
set_option maxRecDepth 100000 in
set_option maxHeartbeats 4000000 in
theorem q_Md_guild {c : Nat} (hc : isChap c) {v1 : Int32} {v2 : Int32} {N : hn} : f_Md_guild S0 76 v1 v2 (N.1, N.2, rT c) = em c (F_Md_guild c v1 v2 N) := by
  unfold f_Md_guild F_Md_guild
  (simp only [hl_n, hl_wI, hl_wL, hl_cp, em_s, em_n, em_g, em_i, em_l, em_b, em_v, emv_s, emv_n, emv_g, emv_i, emv_l, emv_b, emv_v, hb_em, hv_em, hg_T, ne_eq, not_false_eq_true, nz_c, S0_c, S0_lw, S0_h, isHold_36, hc, hc.d, hc.l, hc.d.l, nz_1, nz_2, nz_3, nz_4, nz_5, nz_6, nz_7, nz_8, S0_76, ib_82, q_Md_isGuild hc, q_Md_ownerOf hc, q_Md_panes hc, q_Md_within hc, rT_76_10, q_Md_guild_1 hc]) <;> rfl
set_option maxRecDepth 100000 in
set_option maxHeartbeats 4000000 in
theorem q_Md_leastFrom_3 {c : Nat} (hc : isChap c) {k7 : Nat → Int32 → Int32 → Int32 → Int32 → hm_M → Option (Int32 × hm_M)} {K7 : Int32 → Int32 → Int32 → Int32 → hn → Option (Int32 × hn)} (hk7 : ∀ (v1 : Int32) (v2 : Int32) (v3 : Int32) (v4 : Int32) (N : hn), k7 76 v1 v2 v3 v4 (N.1, N.2, rT c) = em c (K7 v1 v2 v3 v4 N)) {v1 : Int32} {v2 : Int32} {v4 : Int32} {s0 : Int32} {N : hn} : b_Md_leastFrom_3 S0 k7 76 v1 v2 v4 s0 (N.1, N.2, rT c) = em c (B_Md_leastFrom_3 c K7 v1 v2 v4 s0 N) := by
  unfold b_Md_leastFrom_3 B_Md_leastFrom_3
  (simp only [hl_n, hl_wI, hl_wL, hl_cp, em_s, em_n, em_g, em_i, em_l, em_b, em_v, emv_s, emv_n, emv_g, emv_i, emv_l, emv_b, emv_v, hb_em, hv_em, hg_T, ne_eq, not_false_eq_true, nz_c, S0_c, S0_lw, S0_h, isHold_36, hc, hc.d, hc.l, hc.d.l, nz_1, nz_2, nz_3, nz_4, nz_5, nz_6, nz_7, nz_8, S0_76, ib_95, q_Md_steps hc, rT_76_30, hk7]) <;> rfl
set_option maxRecDepth 100000 in
set_option maxHeartbeats 4000000 in
theorem q_Md_leastFrom_2 {c : Nat} (hc : isChap c) {k7 : Nat → Int32 → Int32 → Int32 → Int32 → hm_M → Option (Int32 × hm_M)} {K7 : Int32 → Int32 → Int32 → Int32 → hn → Option (Int32 × hn)} (hk7 : ∀ (v1 : Int32) (v2 : Int32) (v3 : Int32) (v4 : Int32) (N : hn), k7 76 v1 v2 v3 v4 (N.1, N.2, rT c) = em c (K7 v1 v2 v3 v4 N)) {v1 : Int32} {v2 : Int32} {v3 : Int32} {v4 : Int32} {s0 : Int32} {N : hn} : b_Md_leastFrom_2 S0 k7 76 v1 v2 v3 v4 s0 (N.1, N.2, rT c) = em c (B_Md_leastFrom_2 c K7 v1 v2 v3 v4 s0 N) := by
  unfold b_Md_leastFrom_2 B_Md_leastFrom_2
  (simp only [hl_n, hl_wI, hl_wL, hl_cp, em_s, em_n, em_g, em_i, em_l, em_b, em_v, emv_s, emv_n, emv_g, emv_i, emv_l, emv_b, emv_v, hb_em, hv_em, hg_T, ne_eq, not_false_eq_true, nz_c, S0_c, S0_lw, S0_h, isHold_36, hc, hc.d, hc.l, hc.d.l, nz_1, nz_2, nz_3, nz_4, nz_5, nz_6, nz_7, nz_8, S0_76, ib_95, q_Md_steps hc, rT_76_30, hk7, q_Md_leastFrom_3 hc hk7]) <;> rfl
set_option maxRecDepth 100000 in
set_option maxHeartbeats 4000000 in
theorem r_Md_leastFrom_1 {c : Nat} (hc : isChap c) {k7 : Nat → Int32 → Int32 → Int32 → Int32 → hm_M → Option (Int32 × hm_M)} {K7 : Int32 → Int32 → Int32 → Int32 → hn → Option (Int32 × hn)} (hk7 : ∀ (v1 : Int32) (v2 : Int32) (v3 : Int32) (v4 : Int32) (N : hn), k7 76 v1 v2 v3 v4 (N.1, N.2, rT c) = em c (K7 v1 v2 v3 v4 N)) {v1 : Int32} {v2 : Int32} {v3 : Int32} {v4 : Int32} {N : hn} : b_Md_leastFrom_1 S0 k7 76 v1 v2 v3 v4 (N.1, N.2, rT c) = em c (B_Md_leastFrom_1 c K7 v1 v2 v3 v4 N) := by
  unfold b_Md_leastFrom_1 B_Md_leastFrom_1
  (simp only [hl_n, hl_wI, hl_wL, hl_cp, em_s, em_n, em_g, em_i, em_l, em_b, em_v, emv_s, emv_n, emv_g, emv_i, emv_l, emv_b, emv_v, hb_em, hv_em, hg_T, ne_eq, not_false_eq_true, nz_c, S0_c, S0_lw, S0_h, isHold_36, hc, hc.d, hc.l, hc.d.l, nz_1, nz_2, nz_3, nz_4, nz_5, nz_6, nz_7, nz_8, S0_76, ib_95, q_Md_steps hc, rT_76_30, hk7, q_Md_leastFrom_3 hc hk7, q_Md_leastFrom_2 hc hk7]) <;> rfl
theorem q_Md_leastFrom_1 {c : Nat} (hc : isChap c) : ∀ (n : Nat) (v1 : Int32) (v2 : Int32) (v3 : Int32) (v4 : Int32) (N : hn), f_Md_leastFrom_1 S0 n 76 v1 v2 v3 v4 (N.1, N.2, rT c) = em c (F_Md_leastFrom_1 c n v1 v2 v3 v4 N) := by
  intro n
  induction n with
  | zero => intros; rfl
  | succ n ih => intro v1 v2 v3 v4 N ; exact r_Md_leastFrom_1 hc  ih 
set_option maxRecDepth 100000 in
set_option maxHeartbeats 4000000 in
theorem q_Md_leastFrom {c : Nat} (hc : isChap c) {v1 : Int32} {v2 : Int32} {N : hn} : f_Md_leastFrom S0 76 v1 v2 (N.1, N.2, rT c) = em c (F_Md_leastFrom c v1 v2 N) := by
  unfold f_Md_leastFrom F_Md_leastFrom
  (simp only [hl_n, hl_wI, hl_wL, hl_cp, em_s, em_n, em_g, em_i, em_l, em_b, em_v, emv_s, emv_n, emv_g, emv_i, emv_l, emv_b, emv_v, hb_em, hv_em, hg_T, ne_eq, not_false_eq_true, nz_c, S0_c, S0_lw, S0_h, isHold_36, hc, hc.d, hc.l, hc.d.l, nz_1, nz_2, nz_3, nz_4, nz_5, nz_6, nz_7, nz_8, S0_76, ib_95, q_Md_steps hc, rT_76_30, q_Md_leastFrom_1 hc]) <;> rfl
set_option maxRecDepth 100000 in
set_option maxHeartbeats 4000000 in
theorem q_Md_mark_1 {c : Nat} (hc : isChap c) {v1 : Int32} {v2 : Int32} {N : hn} : b_Md_mark_1 S0 76 v1 v2 (N.1, N.2, rT c) = em c (B_Md_mark_1 c v1 v2 N) := by
  unfold b_Md_mark_1 B_Md_mark_1
  (simp only [hl_n, hl_wI, hl_wL, hl_cp, em_s, em_n, em_g, em_i, em_l, em_b, em_v, emv_s, emv_n, emv_g, emv_i, emv_l, emv_b, emv_v, hb_em, hv_em, hg_T, ne_eq, not_false_eq_true, nz_c, S0_c, S0_lw, S0_h, isHold_36, hc, hc.d, hc.l, hc.d.l, nz_1, nz_2, nz_3, nz_4, nz_5, nz_6, nz_7, nz_8, S0_76, ib_89, q_Md_copies hc, q_Md_within hc, rT_76_22]) <;> rfl
set_option maxRecDepth 100000 in
set_option maxHeartbeats 4000000 in
theorem q_Md_mark {c : Nat} (hc : isChap c) {v1 : Int32} {v2 : Int32} {N : hn} : f_Md_mark S0 76 v1 v2 (N.1, N.2, rT c) = em c (F_Md_mark c v1 v2 N) := by
  unfold f_Md_mark F_Md_mark
  (simp only [hl_n, hl_wI, hl_wL, hl_cp, em_s, em_n, em_g, em_i, em_l, em_b, em_v, emv_s, emv_n, emv_g, emv_i, emv_l, emv_b, emv_v, hb_em, hv_em, hg_T, ne_eq, not_false_eq_true, nz_c, S0_c, S0_lw, S0_h, isHold_36, hc, hc.d, hc.l, hc.d.l, nz_1, nz_2, nz_3, nz_4, nz_5, nz_6, nz_7, nz_8, S0_76, ib_89, q_Md_copies hc, q_Md_within hc, rT_76_22, q_Md_mark_1 hc]) <;> rfl
set_option maxRecDepth 100000 in
set_option maxHeartbeats 4000000 in
theorem q_Md_pane {c : Nat} (hc : isChap c) {v1 : Int32} {v2 : Int32} {N : hn} : f_Md_pane S0 76 v1 v2 (N.1, N.2, rT c) = em c (F_Md_pane c v1 v2 N) := by
  unfold f_Md_pane F_Md_pane
  (simp only [hl_n, hl_wI, hl_wL, hl_cp, em_s, em_n, em_g, em_i, em_l, em_b, em_v, emv_s, emv_n, emv_g, emv_i, emv_l, emv_b, emv_v, hb_em, hv_em, hg_T, ne_eq, not_false_eq_true, nz_c, S0_c, S0_lw, S0_h, isHold_36, hc, hc.d, hc.l, hc.d.l, nz_1, nz_2, nz_3, nz_4, nz_5, nz_6, nz_7, nz_8, S0_76, q_Md_isBroken hc, q_Md_isPane hc, q_Md_ownerOf hc, q_Md_paneOf hc, q_Md_within hc]) <;> rfl
set_option maxRecDepth 100000 in
set_option maxHeartbeats 4000000 in
theorem q_Md_place {c : Nat} (hc : isChap c) {v1 : Int32} {v2 : Int32} {v3 : Int32} {v4 : Int32} {v5 : Int32} {N : hn} : f_Md_place S0 76 v1 v2 v3 v4 v5 (N.1, N.2, rT c) = em c (F_Md_place c v1 v2 v3 v4 v5 N) := by
  unfold f_Md_place F_Md_place
  (simp only [hl_n, hl_wI, hl_wL, hl_cp, em_s, em_n, em_g, em_i, em_l, em_b, em_v, emv_s, emv_n, emv_g, emv_i, emv_l, emv_b, emv_v, hb_em, hv_em, hg_T, ne_eq, not_false_eq_true, nz_c, S0_c, S0_lw, S0_h, isHold_36, hc, hc.d, hc.l, hc.d.l, nz_1, nz_2, nz_3, nz_4, nz_5, nz_6, nz_7, nz_8, S0_76, q_Md_findLight hc, q_Md_isOn hc, q_Md_isTime hc, q_Md_lightAt hc, q_Md_within hc]) <;> rfl
set_option maxRecDepth 100000 in
set_option maxHeartbeats 4000000 in
theorem q_Md_rents {c : Nat} (hc : isChap c) {v1 : Int32} {N : hn} : f_Md_rents S0 76 v1 (N.1, N.2, rT c) = em c (F_Md_rents c v1 N) := by
  unfold f_Md_rents F_Md_rents
  (simp only [hl_n, hl_wI, hl_wL, hl_cp, em_s, em_n, em_g, em_i, em_l, em_b, em_v, emv_s, emv_n, emv_g, emv_i, emv_l, emv_b, emv_v, hb_em, hv_em, hg_T, ne_eq, not_false_eq_true, nz_c, S0_c, S0_lw, S0_h, isHold_36, hc, hc.d, hc.l, hc.d.l, nz_1, nz_2, nz_3, nz_4, nz_5, nz_6, nz_7, nz_8, S0_76, q_Md_findYields hc, q_Md_isGuild hc, q_Md_rentsOf hc]) <;> rfl
set_option maxRecDepth 100000 in
set_option maxHeartbeats 4000000 in
theorem q_Md_see {c : Nat} (hc : isChap c) {v1 : Int32} {v2 : Int32} {v3 : Int32} {N : hn} : f_Md_see S0 76 v1 v2 v3 (N.1, N.2, rT c) = em c (F_Md_see c v1 v2 v3 N) := by
  unfold f_Md_see F_Md_see
  (simp only [hl_n, hl_wI, hl_wL, hl_cp, em_s, em_n, em_g, em_i, em_l, em_b, em_v, emv_s, emv_n, emv_g, emv_i, emv_l, emv_b, emv_v, hb_em, hv_em, hg_T, ne_eq, not_false_eq_true, nz_c, S0_c, S0_lw, S0_h, isHold_36, hc, hc.d, hc.l, hc.d.l, nz_1, nz_2, nz_3, nz_4, nz_5, nz_6, nz_7, nz_8, S0_76, ib_88, q_Md_isOn hc, q_Md_seens hc, q_Md_within hc, rT_76_20]) <;> rfl
set_option maxRecDepth 100000 in
set_option maxHeartbeats 4000000 in
theorem q_Md_spot {c : Nat} (hc : isChap c) {v1 : Int32} {v2 : Int32} {v3 : Int32} {N : hn} : f_Md_spot S0 76 v1 v2 v3 (N.1, N.2, rT c) = em c (F_Md_spot c v1 v2 v3 N) := by
  unfold f_Md_spot F_Md_spot
  (simp only [hl_n, hl_wI, hl_wL, hl_cp, em_s, em_n, em_g, em_i, em_l, em_b, em_v, emv_s, emv_n, emv_g, emv_i, emv_l, emv_b, emv_v, hb_em, hv_em, hg_T, ne_eq, not_false_eq_true, nz_c, S0_c, S0_lw, S0_h, isHold_36, hc, hc.d, hc.l, hc.d.l, nz_1, nz_2, nz_3, nz_4, nz_5, nz_6, nz_7, nz_8, S0_76, ib_90, q_Md_findLight hc, q_Md_isPane hc, q_Md_isTime hc, rT_76_24]) <;> rfl
set_option maxRecDepth 100000 in
set_option maxHeartbeats 4000000 in
theorem q_Md_stains {c : Nat} (hc : isChap c) {v1 : Int32} {v2 : Int32} {v3 : Int32} {v4 : Int32} {N : hn} : f_Md_stains S0 76 v1 v2 v3 v4 (N.1, N.2, rT c) = em c (F_Md_stains c v1 v2 v3 v4 N) := by
  unfold f_Md_stains F_Md_stains
  (simp only [hl_n, hl_wI, hl_wL, hl_cp, em_s, em_n, em_g, em_i, em_l, em_b, em_v, emv_s, emv_n, emv_g, emv_i, emv_l, emv_b, emv_v, hb_em, hv_em, hg_T, ne_eq, not_false_eq_true, nz_c, S0_c, S0_lw, S0_h, isHold_36, hc, hc.d, hc.l, hc.d.l, nz_1, nz_2, nz_3, nz_4, nz_5, nz_6, nz_7, nz_8, S0_76, q_Md_canStain hc, q_Md_findStains hc]) <;> rfl
set_option maxRecDepth 100000 in
set_option maxHeartbeats 4000000 in
theorem r_Md_stall_10 {c : Nat} (hc : isChap c) {k251 : Nat → Int32 → Int32 → Int32 → hm_M → Option (Int32 × hm_M)} {K251 : Int32 → Int32 → Int32 → hn → Option (Int32 × hn)} (hk251 : ∀ (v5 : Int32) (v8 : Int32) (v9 : Int32) (N : hn), k251 76 v5 v8 v9 (N.1, N.2, rT c) = em c (K251 v5 v8 v9 N)) {k278 : Nat → Int32 → Int32 → Int32 → Int32 → Int32 → hm_M → Option (Int32 × hm_M)} {K278 : Int32 → Int32 → Int32 → Int32 → Int32 → hn → Option (Int32 × hn)} (hk278 : ∀ (v5 : Int32) (v8 : Int32) (v9 : Int32) (v10 : Int32) (v11 : Int32) (N : hn), k278 76 v5 v8 v9 v10 v11 (N.1, N.2, rT c) = em c (K278 v5 v8 v9 v10 v11 N)) {v5 : Int32} {v8 : Int32} {v9 : Int32} {v10 : Int32} {v11 : Int32} {N : hn} : b_Md_stall_10 S0 k251 k278 76 v5 v8 v9 v10 v11 (N.1, N.2, rT c) = em c (B_Md_stall_10 c K251 K278 v5 v8 v9 v10 v11 N) := by
  unfold b_Md_stall_10 B_Md_stall_10
  (simp only [hl_n, hl_wI, hl_wL, hl_cp, em_s, em_n, em_g, em_i, em_l, em_b, em_v, emv_s, emv_n, emv_g, emv_i, emv_l, emv_b, emv_v, hb_em, hv_em, hg_T, ne_eq, not_false_eq_true, nz_c, S0_c, S0_lw, S0_h, isHold_36, hc, hc.d, hc.l, hc.d.l, nz_1, nz_2, nz_3, nz_4, nz_5, nz_6, nz_7, nz_8, S0_76, ib_95, q_Md_findMay hc, q_Md_isGuild hc, q_Md_isTime hc, q_Md_leastFrom hc, q_Md_steps hc, q_Md_within hc, rT_76_30, hk251, hk278]) <;> rfl
theorem q_Md_stall_10 {c : Nat} (hc : isChap c) {k251 : Nat → Int32 → Int32 → Int32 → hm_M → Option (Int32 × hm_M)} {K251 : Int32 → Int32 → Int32 → hn → Option (Int32 × hn)} (hk251 : ∀ (v5 : Int32) (v8 : Int32) (v9 : Int32) (N : hn), k251 76 v5 v8 v9 (N.1, N.2, rT c) = em c (K251 v5 v8 v9 N)) : ∀ (n : Nat) (v5 : Int32) (v8 : Int32) (v9 : Int32) (v10 : Int32) (v11 : Int32) (N : hn), f_Md_stall_10 S0 k251 n 76 v5 v8 v9 v10 v11 (N.1, N.2, rT c) = em c (F_Md_stall_10 c K251 n v5 v8 v9 v10 v11 N) := by
  intro n
  induction n with
  | zero => intros; rfl
  | succ n ih => intro v5 v8 v9 v10 v11 N ; exact r_Md_stall_10 hc hk251 ih 
set_option maxRecDepth 100000 in
set_option maxHeartbeats 4000000 in
theorem r_Md_stall_9 {c : Nat} (hc : isChap c) {k251 : Nat → Int32 → Int32 → Int32 → hm_M → Option (Int32 × hm_M)} {K251 : Int32 → Int32 → Int32 → hn → Option (Int32 × hn)} (hk251 : ∀ (v5 : Int32) (v8 : Int32) (v9 : Int32) (N : hn), k251 76 v5 v8 v9 (N.1, N.2, rT c) = em c (K251 v5 v8 v9 N)) {v5 : Int32} {v8 : Int32} {v9 : Int32} {N : hn} : b_Md_stall_9 S0 k251 76 v5 v8 v9 (N.1, N.2, rT c) = em c (B_Md_stall_9 c K251 v5 v8 v9 N) := by
  unfold b_Md_stall_9 B_Md_stall_9
  (simp only [hl_n, hl_wI, hl_wL, hl_cp, em_s, em_n, em_g, em_i, em_l, em_b, em_v, emv_s, emv_n, emv_g, emv_i, emv_l, emv_b, emv_v, hb_em, hv_em, hg_T, ne_eq, not_false_eq_true, nz_c, S0_c, S0_lw, S0_h, isHold_36, hc, hc.d, hc.l, hc.d.l, nz_1, nz_2, nz_3, nz_4, nz_5, nz_6, nz_7, nz_8, S0_76, ib_95, q_Md_findMay hc, q_Md_isGuild hc, q_Md_isTime hc, q_Md_leastFrom hc, q_Md_steps hc, q_Md_within hc, rT_76_30, hk251, q_Md_stall_10 hc hk251]) <;> rfl
theorem q_Md_stall_9 {c : Nat} (hc : isChap c) : ∀ (n : Nat) (v5 : Int32) (v8 : Int32) (v9 : Int32) (N : hn), f_Md_stall_9 S0 n 76 v5 v8 v9 (N.1, N.2, rT c) = em c (F_Md_stall_9 c n v5 v8 v9 N) := by
  intro n
  induction n with
  | zero => intros; rfl
  | succ n ih => intro v5 v8 v9 N ; exact r_Md_stall_9 hc  ih 
set_option maxRecDepth 100000 in
set_option maxHeartbeats 4000000 in
theorem q_Md_stall_8 {c : Nat} (hc : isChap c) {k179 : Nat → Int32 → Int32 → Int32 → Int32 → hm_M → Option (Int32 × hm_M)} {K179 : Int32 → Int32 → Int32 → Int32 → hn → Option (Int32 × hn)} (hk179 : ∀ (v5 : Int32) (v7 : Int32) (v8 : Int32) (v9 : Int32) (N : hn), k179 76 v5 v7 v8 v9 (N.1, N.2, rT c) = em c (K179 v5 v7 v8 v9 N)) {v5 : Int32} {v8 : Int32} {v9 : Int32} {s0 : Int32} {N : hn} : b_Md_stall_8 S0 k179 76 v5 v8 v9 s0 (N.1, N.2, rT c) = em c (B_Md_stall_8 c K179 v5 v8 v9 s0 N) := by
  unfold b_Md_stall_8 B_Md_stall_8
  (simp only [hl_n, hl_wI, hl_wL, hl_cp, em_s, em_n, em_g, em_i, em_l, em_b, em_v, emv_s, emv_n, emv_g, emv_i, emv_l, emv_b, emv_v, hb_em, hv_em, hg_T, ne_eq, not_false_eq_true, nz_c, S0_c, S0_lw, S0_h, isHold_36, hc, hc.d, hc.l, hc.d.l, nz_1, nz_2, nz_3, nz_4, nz_5, nz_6, nz_7, nz_8, S0_76, ib_95, q_Md_findMay hc, q_Md_isGuild hc, q_Md_isTime hc, q_Md_leastFrom hc, q_Md_steps hc, q_Md_within hc, rT_76_30, hk179, q_Md_stall_9 hc]) <;> rfl
set_option maxRecDepth 100000 in
set_option maxHeartbeats 4000000 in
theorem q_Md_stall_7 {c : Nat} (hc : isChap c) {k179 : Nat → Int32 → Int32 → Int32 → Int32 → hm_M → Option (Int32 × hm_M)} {K179 : Int32 → Int32 → Int32 → Int32 → hn → Option (Int32 × hn)} (hk179 : ∀ (v5 : Int32) (v7 : Int32) (v8 : Int32) (v9 : Int32) (N : hn), k179 76 v5 v7 v8 v9 (N.1, N.2, rT c) = em c (K179 v5 v7 v8 v9 N)) {v5 : Int32} {v7 : Int32} {v9 : Int32} {s0 : Int32} {N : hn} : b_Md_stall_7 S0 k179 76 v5 v7 v9 s0 (N.1, N.2, rT c) = em c (B_Md_stall_7 c K179 v5 v7 v9 s0 N) := by
  unfold b_Md_stall_7 B_Md_stall_7
  (simp only [hl_n, hl_wI, hl_wL, hl_cp, em_s, em_n, em_g, em_i, em_l, em_b, em_v, emv_s, emv_n, emv_g, emv_i, emv_l, emv_b, emv_v, hb_em, hv_em, hg_T, ne_eq, not_false_eq_true, nz_c, S0_c, S0_lw, S0_h, isHold_36, hc, hc.d, hc.l, hc.d.l, nz_1, nz_2, nz_3, nz_4, nz_5, nz_6, nz_7, nz_8, S0_76, ib_95, q_Md_findMay hc, q_Md_isGuild hc, q_Md_isTime hc, q_Md_leastFrom hc, q_Md_steps hc, q_Md_within hc, rT_76_30, hk179, q_Md_stall_9 hc, q_Md_stall_8 hc hk179]) <;> rfl
set_option maxRecDepth 100000 in
set_option maxHeartbeats 4000000 in
theorem r_Md_stall_6 {c : Nat} (hc : isChap c) {k179 : Nat → Int32 → Int32 → Int32 → Int32 → hm_M → Option (Int32 × hm_M)} {K179 : Int32 → Int32 → Int32 → Int32 → hn → Option (Int32 × hn)} (hk179 : ∀ (v5 : Int32) (v7 : Int32) (v8 : Int32) (v9 : Int32) (N : hn), k179 76 v5 v7 v8 v9 (N.1, N.2, rT c) = em c (K179 v5 v7 v8 v9 N)) {v5 : Int32} {v7 : Int32} {v8 : Int32} {v9 : Int32} {N : hn} : b_Md_stall_6 S0 k179 76 v5 v7 v8 v9 (N.1, N.2, rT c) = em c (B_Md_stall_6 c K179 v5 v7 v8 v9 N) := by
  unfold b_Md_stall_6 B_Md_stall_6
  (simp only [hl_n, hl_wI, hl_wL, hl_cp, em_s, em_n, em_g, em_i, em_l, em_b, em_v, emv_s, emv_n, emv_g, emv_i, emv_l, emv_b, emv_v, hb_em, hv_em, hg_T, ne_eq, not_false_eq_true, nz_c, S0_c, S0_lw, S0_h, isHold_36, hc, hc.d, hc.l, hc.d.l, nz_1, nz_2, nz_3, nz_4, nz_5, nz_6, nz_7, nz_8, S0_76, ib_95, q_Md_findMay hc, q_Md_isGuild hc, q_Md_isTime hc, q_Md_leastFrom hc, q_Md_steps hc, q_Md_within hc, rT_76_30, hk179, q_Md_stall_9 hc, q_Md_stall_8 hc hk179, q_Md_stall_7 hc hk179]) <;> rfl
theorem q_Md_stall_6 {c : Nat} (hc : isChap c) : ∀ (n : Nat) (v5 : Int32) (v7 : Int32) (v8 : Int32) (v9 : Int32) (N : hn), f_Md_stall_6 S0 n 76 v5 v7 v8 v9 (N.1, N.2, rT c) = em c (F_Md_stall_6 c n v5 v7 v8 v9 N) := by
  intro n
  induction n with
  | zero => intros; rfl
  | succ n ih => intro v5 v7 v8 v9 N ; exact r_Md_stall_6 hc  ih 
set_option maxRecDepth 100000 in
set_option maxHeartbeats 4000000 in
theorem q_Md_stall_5 {c : Nat} (hc : isChap c) {k95 : Nat → Int32 → Int32 → hm_M → Option (Int32 × hm_M)} {K95 : Int32 → Int32 → hn → Option (Int32 × hn)} (hk95 : ∀ (v5 : Int32) (v7 : Int32) (N : hn), k95 76 v5 v7 (N.1, N.2, rT c) = em c (K95 v5 v7 N)) {k103 : Nat → Int32 → Int32 → Int32 → hm_M → Option (Int32 × hm_M)} {K103 : Int32 → Int32 → Int32 → hn → Option (Int32 × hn)} (hk103 : ∀ (v5 : Int32) (v7 : Int32) (v8 : Int32) (N : hn), k103 76 v5 v7 v8 (N.1, N.2, rT c) = em c (K103 v5 v7 v8 N)) {v5 : Int32} {v7 : Int32} {v8 : Int32} {s0 : Int32} {s1 : Int32} {N : hn} : b_Md_stall_5 S0 k95 k103 76 v5 v7 v8 s0 s1 95 (N.1, N.2, rT c) = em c (B_Md_stall_5 c K95 K103 v5 v7 v8 s0 s1 N) := by
  unfold b_Md_stall_5 B_Md_stall_5
  (simp only [hl_n, hl_wI, hl_wL, hl_cp, em_s, em_n, em_g, em_i, em_l, em_b, em_v, emv_s, emv_n, emv_g, emv_i, emv_l, emv_b, emv_v, hb_em, hv_em, hg_T, ne_eq, not_false_eq_true, nz_c, S0_c, S0_lw, S0_h, isHold_36, hc, hc.d, hc.l, hc.d.l, nz_1, nz_2, nz_3, nz_4, nz_5, nz_6, nz_7, nz_8, S0_76, ib_95, q_Md_findMay hc, q_Md_isGuild hc, q_Md_isTime hc, q_Md_leastFrom hc, q_Md_steps hc, q_Md_within hc, rT_76_30, hk95, hk103, q_Md_stall_9 hc, q_Md_stall_6 hc]) <;> rfl
set_option maxRecDepth 100000 in
set_option maxHeartbeats 4000000 in
theorem r_Md_stall_4 {c : Nat} (hc : isChap c) {k95 : Nat → Int32 → Int32 → hm_M → Option (Int32 × hm_M)} {K95 : Int32 → Int32 → hn → Option (Int32 × hn)} (hk95 : ∀ (v5 : Int32) (v7 : Int32) (N : hn), k95 76 v5 v7 (N.1, N.2, rT c) = em c (K95 v5 v7 N)) {k103 : Nat → Int32 → Int32 → Int32 → hm_M → Option (Int32 × hm_M)} {K103 : Int32 → Int32 → Int32 → hn → Option (Int32 × hn)} (hk103 : ∀ (v5 : Int32) (v7 : Int32) (v8 : Int32) (N : hn), k103 76 v5 v7 v8 (N.1, N.2, rT c) = em c (K103 v5 v7 v8 N)) {v5 : Int32} {v7 : Int32} {v8 : Int32} {N : hn} : b_Md_stall_4 S0 k95 k103 76 v5 v7 v8 (N.1, N.2, rT c) = em c (B_Md_stall_4 c K95 K103 v5 v7 v8 N) := by
  unfold b_Md_stall_4 B_Md_stall_4
  (simp only [hl_n, hl_wI, hl_wL, hl_cp, em_s, em_n, em_g, em_i, em_l, em_b, em_v, emv_s, emv_n, emv_g, emv_i, emv_l, emv_b, emv_v, hb_em, hv_em, hg_T, ne_eq, not_false_eq_true, nz_c, S0_c, S0_lw, S0_h, isHold_36, hc, hc.d, hc.l, hc.d.l, nz_1, nz_2, nz_3, nz_4, nz_5, nz_6, nz_7, nz_8, S0_76, ib_95, q_Md_findMay hc, q_Md_isGuild hc, q_Md_isTime hc, q_Md_leastFrom hc, q_Md_steps hc, q_Md_within hc, rT_76_30, hk95, hk103, q_Md_stall_9 hc, q_Md_stall_6 hc, q_Md_stall_5 hc hk95 hk103]) <;> rfl
theorem q_Md_stall_4 {c : Nat} (hc : isChap c) {k95 : Nat → Int32 → Int32 → hm_M → Option (Int32 × hm_M)} {K95 : Int32 → Int32 → hn → Option (Int32 × hn)} (hk95 : ∀ (v5 : Int32) (v7 : Int32) (N : hn), k95 76 v5 v7 (N.1, N.2, rT c) = em c (K95 v5 v7 N)) : ∀ (n : Nat) (v5 : Int32) (v7 : Int32) (v8 : Int32) (N : hn), f_Md_stall_4 S0 k95 n 76 v5 v7 v8 (N.1, N.2, rT c) = em c (F_Md_stall_4 c K95 n v5 v7 v8 N) := by
  intro n
  induction n with
  | zero => intros; rfl
  | succ n ih => intro v5 v7 v8 N ; exact r_Md_stall_4 hc hk95 ih 
set_option maxRecDepth 100000 in
set_option maxHeartbeats 4000000 in
theorem r_Md_stall_3 {c : Nat} (hc : isChap c) {k95 : Nat → Int32 → Int32 → hm_M → Option (Int32 × hm_M)} {K95 : Int32 → Int32 → hn → Option (Int32 × hn)} (hk95 : ∀ (v5 : Int32) (v7 : Int32) (N : hn), k95 76 v5 v7 (N.1, N.2, rT c) = em c (K95 v5 v7 N)) {v5 : Int32} {v7 : Int32} {N : hn} : b_Md_stall_3 S0 k95 76 v5 v7 (N.1, N.2, rT c) = em c (B_Md_stall_3 c K95 v5 v7 N) := by
  unfold b_Md_stall_3 B_Md_stall_3
  (simp only [hl_n, hl_wI, hl_wL, hl_cp, em_s, em_n, em_g, em_i, em_l, em_b, em_v, emv_s, emv_n, emv_g, emv_i, emv_l, emv_b, emv_v, hb_em, hv_em, hg_T, ne_eq, not_false_eq_true, nz_c, S0_c, S0_lw, S0_h, isHold_36, hc, hc.d, hc.l, hc.d.l, nz_1, nz_2, nz_3, nz_4, nz_5, nz_6, nz_7, nz_8, S0_76, ib_95, q_Md_findMay hc, q_Md_isGuild hc, q_Md_isTime hc, q_Md_leastFrom hc, q_Md_steps hc, q_Md_within hc, rT_76_30, hk95, q_Md_stall_9 hc, q_Md_stall_6 hc, q_Md_stall_4 hc hk95]) <;> rfl
theorem q_Md_stall_3 {c : Nat} (hc : isChap c) : ∀ (n : Nat) (v5 : Int32) (v7 : Int32) (N : hn), f_Md_stall_3 S0 n 76 v5 v7 (N.1, N.2, rT c) = em c (F_Md_stall_3 c n v5 v7 N) := by
  intro n
  induction n with
  | zero => intros; rfl
  | succ n ih => intro v5 v7 N ; exact r_Md_stall_3 hc  ih 
set_option maxRecDepth 100000 in
set_option maxHeartbeats 4000000 in
theorem r_Md_stall_2 {c : Nat} (hc : isChap c) {k64 : Nat → Int32 → Int32 → Int32 → Int32 → Int32 → Int32 → hm_M → Option (Int32 × hm_M)} {K64 : Int32 → Int32 → Int32 → Int32 → Int32 → Int32 → hn → Option (Int32 × hn)} (hk64 : ∀ (v1 : Int32) (v2 : Int32) (v3 : Int32) (v5 : Int32) (v6 : Int32) (v7 : Int32) (N : hn), k64 76 v1 v2 v3 v5 v6 v7 (N.1, N.2, rT c) = em c (K64 v1 v2 v3 v5 v6 v7 N)) {v1 : Int32} {v2 : Int32} {v3 : Int32} {v5 : Int32} {v6 : Int32} {v7 : Int32} {N : hn} : b_Md_stall_2 S0 k64 76 v1 v2 v3 v5 v6 v7 (N.1, N.2, rT c) = em c (B_Md_stall_2 c K64 v1 v2 v3 v5 v6 v7 N) := by
  unfold b_Md_stall_2 B_Md_stall_2
  (simp only [hl_n, hl_wI, hl_wL, hl_cp, em_s, em_n, em_g, em_i, em_l, em_b, em_v, emv_s, emv_n, emv_g, emv_i, emv_l, emv_b, emv_v, hb_em, hv_em, hg_T, ne_eq, not_false_eq_true, nz_c, S0_c, S0_lw, S0_h, isHold_36, hc, hc.d, hc.l, hc.d.l, nz_1, nz_2, nz_3, nz_4, nz_5, nz_6, nz_7, nz_8, S0_76, ib_95, q_Md_findMay hc, q_Md_isGuild hc, q_Md_isTime hc, q_Md_leastFrom hc, q_Md_steps hc, q_Md_within hc, rT_76_30, hk64, q_Md_stall_9 hc, q_Md_stall_6 hc, q_Md_stall_3 hc]) <;> rfl
theorem q_Md_stall_2 {c : Nat} (hc : isChap c) : ∀ (n : Nat) (v1 : Int32) (v2 : Int32) (v3 : Int32) (v5 : Int32) (v6 : Int32) (v7 : Int32) (N : hn), f_Md_stall_2 S0 n 76 v1 v2 v3 v5 v6 v7 (N.1, N.2, rT c) = em c (F_Md_stall_2 c n v1 v2 v3 v5 v6 v7 N) := by
  intro n
  induction n with
  | zero => intros; rfl
  | succ n ih => intro v1 v2 v3 v5 v6 v7 N ; exact r_Md_stall_2 hc  ih 
set_option maxRecDepth 100000 in
set_option maxHeartbeats 4000000 in
theorem q_Md_stall_1 {c : Nat} (hc : isChap c) {v1 : Int32} {v2 : Int32} {v3 : Int32} {v4 : Int32} {v5 : Int32} {N : hn} : b_Md_stall_1 S0 76 v1 v2 v3 v4 v5 (N.1, N.2, rT c) = em c (B_Md_stall_1 c v1 v2 v3 v4 v5 N) := by
  unfold b_Md_stall_1 B_Md_stall_1
  (simp only [hl_n, hl_wI, hl_wL, hl_cp, em_s, em_n, em_g, em_i, em_l, em_b, em_v, emv_s, emv_n, emv_g, emv_i, emv_l, emv_b, emv_v, hb_em, hv_em, hg_T, ne_eq, not_false_eq_true, nz_c, S0_c, S0_lw, S0_h, isHold_36, hc, hc.d, hc.l, hc.d.l, nz_1, nz_2, nz_3, nz_4, nz_5, nz_6, nz_7, nz_8, S0_76, ib_95, q_Md_findMay hc, q_Md_isGuild hc, q_Md_isTime hc, q_Md_leastFrom hc, q_Md_steps hc, q_Md_within hc, rT_76_30, q_Md_stall_9 hc, q_Md_stall_6 hc, q_Md_stall_3 hc, q_Md_stall_2 hc]) <;> rfl
set_option maxRecDepth 100000 in
set_option maxHeartbeats 4000000 in
theorem q_Md_stall {c : Nat} (hc : isChap c) {v1 : Int32} {v2 : Int32} {v3 : Int32} {v4 : Int32} {v5 : Int32} {N : hn} : f_Md_stall S0 76 v1 v2 v3 v4 v5 (N.1, N.2, rT c) = em c (F_Md_stall c v1 v2 v3 v4 v5 N) := by
  unfold f_Md_stall F_Md_stall
  (simp only [hl_n, hl_wI, hl_wL, hl_cp, em_s, em_n, em_g, em_i, em_l, em_b, em_v, emv_s, emv_n, emv_g, emv_i, emv_l, emv_b, emv_v, hb_em, hv_em, hg_T, ne_eq, not_false_eq_true, nz_c, S0_c, S0_lw, S0_h, isHold_36, hc, hc.d, hc.l, hc.d.l, nz_1, nz_2, nz_3, nz_4, nz_5, nz_6, nz_7, nz_8, S0_76, ib_95, q_Md_findMay hc, q_Md_isGuild hc, q_Md_isTime hc, q_Md_leastFrom hc, q_Md_steps hc, q_Md_within hc, rT_76_30, q_Md_stall_1 hc, q_Md_stall_2 hc, q_Md_stall_3 hc, q_Md_stall_6 hc, q_Md_stall_9 hc]) <;> rfl
set_option maxRecDepth 100000 in
set_option maxHeartbeats 4000000 in
theorem r_Md_stood_1 {c : Nat} (hc : isChap c) {k63 : Nat → Int32 → Int32 → Int32 → Int32 → Int32 → hm_M → Option (Int32 × hm_M)} {K63 : Int32 → Int32 → Int32 → Int32 → Int32 → hn → Option (Int32 × hn)} (hk63 : ∀ (v5 : Int32) (v6 : Int32) (v7 : Int32) (v8 : Int32) (v9 : Int32) (N : hn), k63 76 v5 v6 v7 v8 v9 (N.1, N.2, rT c) = em c (K63 v5 v6 v7 v8 v9 N)) {v5 : Int32} {v6 : Int32} {v7 : Int32} {v8 : Int32} {v9 : Int32} {N : hn} : b_Md_stood_1 S0 k63 76 v5 v6 v7 v8 v9 (N.1, N.2, rT c) = em c (B_Md_stood_1 c K63 v5 v6 v7 v8 v9 N) := by
  unfold b_Md_stood_1 B_Md_stood_1
  (simp only [hl_n, hl_wI, hl_wL, hl_cp, em_s, em_n, em_g, em_i, em_l, em_b, em_v, emv_s, emv_n, emv_g, emv_i, emv_l, emv_b, emv_v, hb_em, hv_em, hg_T, ne_eq, not_false_eq_true, nz_c, S0_c, S0_lw, S0_h, isHold_36, hc, hc.d, hc.l, hc.d.l, nz_1, nz_2, nz_3, nz_4, nz_5, nz_6, nz_7, nz_8, S0_76, ib_96, ib_97, ib_98, q_Md_canStain hc, q_Md_findStains hc, q_Md_guilds hc, q_Md_within hc, rT_76_31, rT_76_32, rT_76_33, hk63]) <;> rfl
theorem q_Md_stood_1 {c : Nat} (hc : isChap c) : ∀ (n : Nat) (v5 : Int32) (v6 : Int32) (v7 : Int32) (v8 : Int32) (v9 : Int32) (N : hn), f_Md_stood_1 S0 n 76 v5 v6 v7 v8 v9 (N.1, N.2, rT c) = em c (F_Md_stood_1 c n v5 v6 v7 v8 v9 N) := by
  intro n
  induction n with
  | zero => intros; rfl
  | succ n ih => intro v5 v6 v7 v8 v9 N ; exact r_Md_stood_1 hc  ih 
set_option maxRecDepth 100000 in
set_option maxHeartbeats 4000000 in
theorem q_Md_stood {c : Nat} (hc : isChap c) {v1 : Int32} {v2 : Int32} {v3 : Int32} {v4 : Int32} {v5 : Int32} {v6 : Int32} {N : hn} : f_Md_stood S0 76 v1 v2 v3 v4 v5 v6 (N.1, N.2, rT c) = em c (F_Md_stood c v1 v2 v3 v4 v5 v6 N) := by
  unfold f_Md_stood F_Md_stood
  (simp only [hl_n, hl_wI, hl_wL, hl_cp, em_s, em_n, em_g, em_i, em_l, em_b, em_v, emv_s, emv_n, emv_g, emv_i, emv_l, emv_b, emv_v, hb_em, hv_em, hg_T, ne_eq, not_false_eq_true, nz_c, S0_c, S0_lw, S0_h, isHold_36, hc, hc.d, hc.l, hc.d.l, nz_1, nz_2, nz_3, nz_4, nz_5, nz_6, nz_7, nz_8, S0_76, ib_96, ib_97, ib_98, q_Md_canStain hc, q_Md_findStains hc, q_Md_guilds hc, q_Md_within hc, rT_76_31, rT_76_32, rT_76_33, q_Md_stood_1 hc]) <;> rfl
set_option maxRecDepth 100000 in
set_option maxHeartbeats 4000000 in
theorem q_Md_thrown {c : Nat} (hc : isChap c) {N : hn} : f_Md_thrown S0 76 (N.1, N.2, rT c) = em c (F_Md_thrown c N) := by
  unfold f_Md_thrown F_Md_thrown
  (simp only [hl_n, hl_wI, hl_wL, hl_cp, em_s, em_n, em_g, em_i, em_l, em_b, em_v, emv_s, emv_n, emv_g, emv_i, emv_l, emv_b, emv_v, hb_em, hv_em, hg_T, ne_eq, not_false_eq_true, nz_c, S0_c, S0_lw, S0_h, isHold_36, hc, hc.d, hc.l, hc.d.l, nz_1, nz_2, nz_3, nz_4, nz_5, nz_6, nz_7, nz_8, S0_76]) <;> rfl
set_option maxRecDepth 100000 in
set_option maxHeartbeats 4000000 in
theorem q_Md_undo {c : Nat} (hc : isChap c) {N : hn} : f_Md_undo S0 76 (N.1, N.2, rT c) = em c (F_Md_undo c N) := by
  unfold f_Md_undo F_Md_undo
  (simp only [hl_n, hl_wI, hl_wL, hl_cp, em_s, em_n, em_g, em_i, em_l, em_b, em_v, emv_s, emv_n, emv_g, emv_i, emv_l, emv_b, emv_v, hb_em, hv_em, hg_T, ne_eq, not_false_eq_true, nz_c, S0_c, S0_lw, S0_h, isHold_36, hc, hc.d, hc.l, hc.d.l, nz_1, nz_2, nz_3, nz_4, nz_5, nz_6, nz_7, nz_8, S0_76, q_Md_copies hc]) <;> rfl
set_option maxRecDepth 100000 in
set_option maxHeartbeats 4000000 in
theorem q_Md_when_4 {c : Nat} (hc : isChap c) {k28 : Nat → Int32 → Int32 → Int32 → Int32 → Int32 → hm_M → Option (Int32 × hm_M)} {K28 : Int32 → Int32 → Int32 → Int32 → Int32 → hn → Option (Int32 × hn)} (hk28 : ∀ (v1 : Int32) (v2 : Int32) (v3 : Int32) (v4 : Int32) (v5 : Int32) (N : hn), k28 76 v1 v2 v3 v4 v5 (N.1, N.2, rT c) = em c (K28 v1 v2 v3 v4 v5 N)) {v1 : Int32} {v3 : Int32} {v4 : Int32} {v5 : Int32} {s0 : Int32} {N : hn} : b_Md_when_4 S0 k28 76 v1 v3 v4 v5 s0 (N.1, N.2, rT c) = em c (B_Md_when_4 c K28 v1 v3 v4 v5 s0 N) := by
  unfold b_Md_when_4 B_Md_when_4
  (simp only [hl_n, hl_wI, hl_wL, hl_cp, em_s, em_n, em_g, em_i, em_l, em_b, em_v, emv_s, emv_n, emv_g, emv_i, emv_l, emv_b, emv_v, hb_em, hv_em, hg_T, ne_eq, not_false_eq_true, nz_c, S0_c, S0_lw, S0_h, isHold_36, hc, hc.d, hc.l, hc.d.l, nz_1, nz_2, nz_3, nz_4, nz_5, nz_6, nz_7, nz_8, S0_76, q_Md_candlesAt hc, q_Md_within hc, hk28]) <;> rfl
set_option maxRecDepth 100000 in
set_option maxHeartbeats 4000000 in
theorem q_Md_when_3 {c : Nat} (hc : isChap c) {k28 : Nat → Int32 → Int32 → Int32 → Int32 → Int32 → hm_M → Option (Int32 × hm_M)} {K28 : Int32 → Int32 → Int32 → Int32 → Int32 → hn → Option (Int32 × hn)} (hk28 : ∀ (v1 : Int32) (v2 : Int32) (v3 : Int32) (v4 : Int32) (v5 : Int32) (N : hn), k28 76 v1 v2 v3 v4 v5 (N.1, N.2, rT c) = em c (K28 v1 v2 v3 v4 v5 N)) {v1 : Int32} {v2 : Int32} {v3 : Int32} {v5 : Int32} {v6 : Int32} {s0 : Int32} {N : hn} : b_Md_when_3 S0 k28 76 v1 v2 v3 v5 v6 s0 (N.1, N.2, rT c) = em c (B_Md_when_3 c K28 v1 v2 v3 v5 v6 s0 N) := by
  unfold b_Md_when_3 B_Md_when_3
  (simp only [hl_n, hl_wI, hl_wL, hl_cp, em_s, em_n, em_g, em_i, em_l, em_b, em_v, emv_s, emv_n, emv_g, emv_i, emv_l, emv_b, emv_v, hb_em, hv_em, hg_T, ne_eq, not_false_eq_true, nz_c, S0_c, S0_lw, S0_h, isHold_36, hc, hc.d, hc.l, hc.d.l, nz_1, nz_2, nz_3, nz_4, nz_5, nz_6, nz_7, nz_8, S0_76, q_Md_candlesAt hc, q_Md_within hc, hk28, q_Md_when_4 hc hk28]) <;> rfl
set_option maxRecDepth 100000 in
set_option maxHeartbeats 4000000 in
theorem q_Md_when_2 {c : Nat} (hc : isChap c) {k28 : Nat → Int32 → Int32 → Int32 → Int32 → Int32 → hm_M → Option (Int32 × hm_M)} {K28 : Int32 → Int32 → Int32 → Int32 → Int32 → hn → Option (Int32 × hn)} (hk28 : ∀ (v1 : Int32) (v2 : Int32) (v3 : Int32) (v4 : Int32) (v5 : Int32) (N : hn), k28 76 v1 v2 v3 v4 v5 (N.1, N.2, rT c) = em c (K28 v1 v2 v3 v4 v5 N)) {v1 : Int32} {v2 : Int32} {v4 : Int32} {v5 : Int32} {v6 : Int32} {s0 : Int32} {N : hn} : b_Md_when_2 S0 k28 76 v1 v2 v4 v5 v6 s0 (N.1, N.2, rT c) = em c (B_Md_when_2 c K28 v1 v2 v4 v5 v6 s0 N) := by
  unfold b_Md_when_2 B_Md_when_2
  (simp only [hl_n, hl_wI, hl_wL, hl_cp, em_s, em_n, em_g, em_i, em_l, em_b, em_v, emv_s, emv_n, emv_g, emv_i, emv_l, emv_b, emv_v, hb_em, hv_em, hg_T, ne_eq, not_false_eq_true, nz_c, S0_c, S0_lw, S0_h, isHold_36, hc, hc.d, hc.l, hc.d.l, nz_1, nz_2, nz_3, nz_4, nz_5, nz_6, nz_7, nz_8, S0_76, q_Md_candlesAt hc, q_Md_within hc, hk28, q_Md_when_4 hc hk28, q_Md_when_3 hc hk28]) <;> rfl
set_option maxRecDepth 100000 in
set_option maxHeartbeats 4000000 in
theorem r_Md_when_1 {c : Nat} (hc : isChap c) {k28 : Nat → Int32 → Int32 → Int32 → Int32 → Int32 → hm_M → Option (Int32 × hm_M)} {K28 : Int32 → Int32 → Int32 → Int32 → Int32 → hn → Option (Int32 × hn)} (hk28 : ∀ (v1 : Int32) (v2 : Int32) (v3 : Int32) (v4 : Int32) (v5 : Int32) (N : hn), k28 76 v1 v2 v3 v4 v5 (N.1, N.2, rT c) = em c (K28 v1 v2 v3 v4 v5 N)) {v1 : Int32} {v2 : Int32} {v3 : Int32} {v4 : Int32} {v5 : Int32} {N : hn} : b_Md_when_1 S0 k28 76 v1 v2 v3 v4 v5 (N.1, N.2, rT c) = em c (B_Md_when_1 c K28 v1 v2 v3 v4 v5 N) := by
  unfold b_Md_when_1 B_Md_when_1
  (simp only [hl_n, hl_wI, hl_wL, hl_cp, em_s, em_n, em_g, em_i, em_l, em_b, em_v, emv_s, emv_n, emv_g, emv_i, emv_l, emv_b, emv_v, hb_em, hv_em, hg_T, ne_eq, not_false_eq_true, nz_c, S0_c, S0_lw, S0_h, isHold_36, hc, hc.d, hc.l, hc.d.l, nz_1, nz_2, nz_3, nz_4, nz_5, nz_6, nz_7, nz_8, S0_76, q_Md_candlesAt hc, q_Md_within hc, hk28, q_Md_when_4 hc hk28, q_Md_when_3 hc hk28, q_Md_when_2 hc hk28]) <;> rfl
theorem q_Md_when_1 {c : Nat} (hc : isChap c) : ∀ (n : Nat) (v1 : Int32) (v2 : Int32) (v3 : Int32) (v4 : Int32) (v5 : Int32) (N : hn), f_Md_when_1 S0 n 76 v1 v2 v3 v4 v5 (N.1, N.2, rT c) = em c (F_Md_when_1 c n v1 v2 v3 v4 v5 N) := by
  intro n
  induction n with
  | zero => intros; rfl
  | succ n ih => intro v1 v2 v3 v4 v5 N ; exact r_Md_when_1 hc  ih 
set_option maxRecDepth 100000 in
set_option maxHeartbeats 4000000 in
theorem q_Md_when {c : Nat} (hc : isChap c) {v1 : Int32} {N : hn} : f_Md_when S0 76 v1 (N.1, N.2, rT c) = em c (F_Md_when c v1 N) := by
  unfold f_Md_when F_Md_when
  (simp only [hl_n, hl_wI, hl_wL, hl_cp, em_s, em_n, em_g, em_i, em_l, em_b, em_v, emv_s, emv_n, emv_g, emv_i, emv_l, emv_b, emv_v, hb_em, hv_em, hg_T, ne_eq, not_false_eq_true, nz_c, S0_c, S0_lw, S0_h, isHold_36, hc, hc.d, hc.l, hc.d.l, nz_1, nz_2, nz_3, nz_4, nz_5, nz_6, nz_7, nz_8, S0_76, q_Md_candlesAt hc, q_Md_within hc, q_Md_when_1 hc]) <;> rfl
set_option maxRecDepth 100000 in
set_option maxHeartbeats 4000000 in
theorem q_Md_worth {c : Nat} (hc : isChap c) {v1 : Int32} {v2 : Int32} {N : hn} : f_Md_worth S0 76 v1 v2 (N.1, N.2, rT c) = em c (F_Md_worth c v1 v2 N) := by
  unfold f_Md_worth F_Md_worth
  (simp only [hl_n, hl_wI, hl_wL, hl_cp, em_s, em_n, em_g, em_i, em_l, em_b, em_v, emv_s, emv_n, emv_g, emv_i, emv_l, emv_b, emv_v, hb_em, hv_em, hg_T, ne_eq, not_false_eq_true, nz_c, S0_c, S0_lw, S0_h, isHold_36, hc, hc.d, hc.l, hc.d.l, nz_1, nz_2, nz_3, nz_4, nz_5, nz_6, nz_7, nz_8, S0_76, q_Md_findYields hc, q_Md_isGuild hc, q_Md_isPane hc, q_Md_worthOf hc]) <;> rfl
set_option maxRecDepth 100000 in
set_option maxHeartbeats 4000000 in
theorem q_Md_yields {c : Nat} (hc : isChap c) {v1 : Int32} {N : hn} : f_Md_yields S0 76 v1 (N.1, N.2, rT c) = em c (F_Md_yields c v1 N) := by
  unfold f_Md_yields F_Md_yields
  (simp only [hl_n, hl_wI, hl_wL, hl_cp, em_s, em_n, em_g, em_i, em_l, em_b, em_v, emv_s, emv_n, emv_g, emv_i, emv_l, emv_b, emv_v, hb_em, hv_em, hg_T, ne_eq, not_false_eq_true, nz_c, S0_c, S0_lw, S0_h, isHold_36, hc, hc.d, hc.l, hc.d.l, nz_1, nz_2, nz_3, nz_4, nz_5, nz_6, nz_7, nz_8, S0_76, ib_91, q_Md_findYields hc, q_Md_isPane hc, rT_76_25]) <;> rfl
