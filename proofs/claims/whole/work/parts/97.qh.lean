/-! the resolved layer is right: tries -/
set_option maxRecDepth 100000 in
set_option maxHeartbeats 400000 in
theorem q_Md_tries_4 {c : Nat} (hc : isChap c) {rp : Nat → Int32 → Int32 → hm_M → Option hm_M} {RP : Int32 → Int32 → hn → Option hn} (hp : ∀ (v : Int32) (w : Int32) (N : hn), rp 76 v w (N.1, N.2, rT c) = emv c (RP v w N)) {k84 : Nat → Int32 → Int32 → Int32 → hm_M → Option hm_M} {K84 : Int32 → Int32 → Int32 → hn → Option hn} (hk84 : ∀ (v1 : Int32) (v2 : Int32) (v3 : Int32) (N : hn), k84 76 v1 v2 v3 (N.1, N.2, rT c) = emv c (K84 v1 v2 v3 N)) {v1 : Int32} {v2 : Int32} {v3 : Int32} {s0 : Int32} {N : hn} : b_Md_tries_4 S0 rp k84 76 v1 v2 v3 s0 (N.1, N.2, rT c) = emv c (B_Md_tries_4 c RP K84 v1 v2 v3 s0 N) := by
  unfold b_Md_tries_4 B_Md_tries_4
  try simp only [my_ite, my_hg]
  simp only [hl_n', hl_wI', hl_wL', hl_cp', em_s', em_n', em_my, em_l', em_b, em_v, emv_s', emv_n', emv_my, emv_l', emv_b, emv_v, hb_em, hv_em, my_T, my_F, ne_eq, not_false_eq_true, nz_c, S0_c, S0_lw, S0_h, isHold_36, hc, hc.d, hc.l, hc.d.l, nz_1, nz_2, nz_3, nz_4, nz_5, nz_6, nz_7, nz_8, S0_76, ib_92, ib_93, rT_76_26, rT_76_27, q_Md_panes hc, q_Md_areUnlike hc, q_Md_gainOf hc, hp, hk84]
set_option maxRecDepth 100000 in
set_option maxHeartbeats 400000 in
theorem q_Md_tries_3 {c : Nat} (hc : isChap c) {rp : Nat → Int32 → Int32 → hm_M → Option hm_M} {RP : Int32 → Int32 → hn → Option hn} (hp : ∀ (v : Int32) (w : Int32) (N : hn), rp 76 v w (N.1, N.2, rT c) = emv c (RP v w N)) {k84 : Nat → Int32 → Int32 → Int32 → hm_M → Option hm_M} {K84 : Int32 → Int32 → Int32 → hn → Option hn} (hk84 : ∀ (v1 : Int32) (v2 : Int32) (v3 : Int32) (N : hn), k84 76 v1 v2 v3 (N.1, N.2, rT c) = emv c (K84 v1 v2 v3 N)) {v1 : Int32} {v2 : Int32} {v3 : Int32} {N : hn} : b_Md_tries_3 S0 rp k84 76 v1 v2 v3 (N.1, N.2, rT c) = emv c (B_Md_tries_3 c RP K84 v1 v2 v3 N) := by
  unfold b_Md_tries_3 B_Md_tries_3
  try simp only [my_ite, my_hg]
  simp only [hl_n', hl_wI', hl_wL', hl_cp', em_s', em_n', em_my, em_l', em_b, em_v, emv_s', emv_n', emv_my, emv_l', emv_b, emv_v, hb_em, hv_em, my_T, my_F, ne_eq, not_false_eq_true, nz_c, S0_c, S0_lw, S0_h, isHold_36, hc, hc.d, hc.l, hc.d.l, nz_1, nz_2, nz_3, nz_4, nz_5, nz_6, nz_7, nz_8, S0_76, ib_92, ib_93, rT_76_26, rT_76_27, q_Md_panes hc, q_Md_areUnlike hc, q_Md_gainOf hc, hp, hk84, q_Md_tries_4 hc hp hk84]
set_option maxRecDepth 100000 in
set_option maxHeartbeats 400000 in
theorem r_Md_tries_2 {c : Nat} (hc : isChap c) {rp : Nat → Int32 → Int32 → hm_M → Option hm_M} {RP : Int32 → Int32 → hn → Option hn} (hp : ∀ (v : Int32) (w : Int32) (N : hn), rp 76 v w (N.1, N.2, rT c) = emv c (RP v w N)) {k84 : Nat → Int32 → Int32 → Int32 → hm_M → Option hm_M} {K84 : Int32 → Int32 → Int32 → hn → Option hn} (hk84 : ∀ (v1 : Int32) (v2 : Int32) (v3 : Int32) (N : hn), k84 76 v1 v2 v3 (N.1, N.2, rT c) = emv c (K84 v1 v2 v3 N)) {v1 : Int32} {v2 : Int32} {v3 : Int32} {N : hn} : b_Md_tries_2 S0 rp k84 76 v1 v2 v3 (N.1, N.2, rT c) = emv c (B_Md_tries_2 c RP K84 v1 v2 v3 N) := by
  unfold b_Md_tries_2 B_Md_tries_2
  try simp only [my_ite, my_hg]
  simp only [hl_n', hl_wI', hl_wL', hl_cp', em_s', em_n', em_my, em_l', em_b, em_v, emv_s', emv_n', emv_my, emv_l', emv_b, emv_v, hb_em, hv_em, my_T, my_F, ne_eq, not_false_eq_true, nz_c, S0_c, S0_lw, S0_h, isHold_36, hc, hc.d, hc.l, hc.d.l, nz_1, nz_2, nz_3, nz_4, nz_5, nz_6, nz_7, nz_8, S0_76, ib_92, ib_93, rT_76_26, rT_76_27, q_Md_panes hc, q_Md_areUnlike hc, q_Md_gainOf hc, hp, hk84, q_Md_tries_4 hc hp hk84, q_Md_tries_3 hc hp hk84]
theorem q_Md_tries_2 {c : Nat} (hc : isChap c) {rp : Nat → Int32 → Int32 → hm_M → Option hm_M} {RP : Int32 → Int32 → hn → Option hn} (hp : ∀ (v : Int32) (w : Int32) (N : hn), rp 76 v w (N.1, N.2, rT c) = emv c (RP v w N)) : ∀ (n : Nat) (v1 : Int32) (v2 : Int32) (v3 : Int32) (N : hn), f_Md_tries_2 S0 rp n 76 v1 v2 v3 (N.1, N.2, rT c) = emv c (F_Md_tries_2 c RP n v1 v2 v3 N) := by
  intro n
  induction n with
  | zero => intros; rfl
  | succ n ih => intro v1 v2 v3 N; exact r_Md_tries_2 hc hp ih
set_option maxRecDepth 100000 in
set_option maxHeartbeats 400000 in
theorem r_Md_tries_1 {c : Nat} (hc : isChap c) {rp : Nat → Int32 → Int32 → hm_M → Option hm_M} {RP : Int32 → Int32 → hn → Option hn} (hp : ∀ (v : Int32) (w : Int32) (N : hn), rp 76 v w (N.1, N.2, rT c) = emv c (RP v w N)) {k23 : Nat → Int32 → Int32 → hm_M → Option hm_M} {K23 : Int32 → Int32 → hn → Option hn} (hk23 : ∀ (v1 : Int32) (v3 : Int32) (N : hn), k23 76 v1 v3 (N.1, N.2, rT c) = emv c (K23 v1 v3 N)) {v1 : Int32} {v3 : Int32} {N : hn} : b_Md_tries_1 S0 rp k23 76 v1 v3 (N.1, N.2, rT c) = emv c (B_Md_tries_1 c RP K23 v1 v3 N) := by
  unfold b_Md_tries_1 B_Md_tries_1
  try simp only [my_ite, my_hg]
  simp only [hl_n', hl_wI', hl_wL', hl_cp', em_s', em_n', em_my, em_l', em_b, em_v, emv_s', emv_n', emv_my, emv_l', emv_b, emv_v, hb_em, hv_em, my_T, my_F, ne_eq, not_false_eq_true, nz_c, S0_c, S0_lw, S0_h, isHold_36, hc, hc.d, hc.l, hc.d.l, nz_1, nz_2, nz_3, nz_4, nz_5, nz_6, nz_7, nz_8, S0_76, ib_92, ib_93, rT_76_26, rT_76_27, q_Md_panes hc, q_Md_areUnlike hc, q_Md_gainOf hc, hp, hk23]
theorem q_Md_tries_1 {c : Nat} (hc : isChap c) {rp : Nat → Int32 → Int32 → hm_M → Option hm_M} {RP : Int32 → Int32 → hn → Option hn} (hp : ∀ (v : Int32) (w : Int32) (N : hn), rp 76 v w (N.1, N.2, rT c) = emv c (RP v w N)) : ∀ (n : Nat) (v1 : Int32) (v3 : Int32) (N : hn), f_Md_tries_1 S0 rp n 76 v1 v3 (N.1, N.2, rT c) = emv c (F_Md_tries_1 c RP n v1 v3 N) := by
  intro n
  induction n with
  | zero => intros; rfl
  | succ n ih => intro v1 v3 N; exact r_Md_tries_1 hc hp ih
set_option maxRecDepth 100000 in
set_option maxHeartbeats 400000 in
theorem r_Md_tries {c : Nat} (hc : isChap c) {rp : Nat → Int32 → Int32 → hm_M → Option hm_M} {RP : Int32 → Int32 → hn → Option hn} (hp : ∀ (v : Int32) (w : Int32) (N : hn), rp 76 v w (N.1, N.2, rT c) = emv c (RP v w N)) {v1 : Int32} {v2 : Int32} {N : hn} : e_Md_tries S0 rp 76 v1 v2 (N.1, N.2, rT c) = emv c (E_Md_tries c RP v1 v2 N) := by
  unfold e_Md_tries E_Md_tries
  try simp only [my_ite, my_hg]
  simp only [hl_n', hl_wI', hl_wL', hl_cp', em_s', em_n', em_my, em_l', em_b, em_v, emv_s', emv_n', emv_my, emv_l', emv_b, emv_v, hb_em, hv_em, my_T, my_F, ne_eq, not_false_eq_true, nz_c, S0_c, S0_lw, S0_h, isHold_36, hc, hc.d, hc.l, hc.d.l, nz_1, nz_2, nz_3, nz_4, nz_5, nz_6, nz_7, nz_8, S0_76, ib_92, ib_93, rT_76_26, rT_76_27, q_Md_panes hc, q_Md_areUnlike hc, q_Md_gainOf hc, hp, q_Md_tries_1 hc hp, q_Md_tries_2 hc hp]
theorem q_Md_tries {c : Nat} (hc : isChap c) : ∀ (n : Nat) (v1 : Int32) (v2 : Int32) (N : hn), f_Md_tries S0 n 76 v1 v2 (N.1, N.2, rT c) = emv c (F_Md_tries c n v1 v2 N) := by
  intro n
  induction n with
  | zero => intros; rfl
  | succ n ih => intro v1 v2 N; exact r_Md_tries hc ih
