/-! by program: the machine runs them -/
set_option maxRecDepth 100000 in
set_option maxHeartbeats 4000000 in
theorem k_Walk_go {n : Nat} {S : hm_S} {v0 : Nat} {v1 : Nat} {v2 : Int32} {v3 : Int32} {v4 : Int32} {v5 : Int32} {v6 : Int32} {v7 : Nat} {M : hm_M} {M' : hm_M} (hF : f_Walk_go S v0 v1 v2 v3 v4 v5 v6 v7 M = some M') : hm_KM yX9_go cX9_go 11 none 6 n S [.ref v0, .ref v1, .int v2, .int v3, .int v4, .int v5, .int v6, .ref v7] M none M' := by
  refine hm_enter mm_Walk_go (Nat.le_of_ble_eq_true rfl) (fun X hC => ?_)
  show hm_U X 0 [(0, .ref v0), (1, .ref v1), (2, .int v2), (3, .int v3), (4, .int v4), (5, .int v5), (6, .int v6), (7, .ref v7)] [] M _
  unfold f_Walk_go at hF
  refine jv_iload hC 5 dX9_go_0 rfl ?_
  refine jv_iload hC 6 dX9_go_2 rfl ?_
  refine jv_icmp_gt hC 11 dX9_go_4 (by decide) (fun h1 => ?_) (fun h1 => ?_)
  · have hF := hi_pos h1 hF
    refine jv_iconst hC dX9_go_11 c32_m1 ?_
    exact jv_pc 12 rfl (s_Walk_go_1 hC hF)
  · have hF := hi_neg h1 hF
    refine jv_iconst hC dX9_go_7 c32_1 ?_
    refine jv_goto hC 12 dX9_go_8 (by decide) ?_
    exact jv_pc 12 rfl (s_Walk_go_1 hC hF)
set_option maxRecDepth 100000 in
set_option maxHeartbeats 4000000 in
theorem t_Walk_rowsOf_1 {X : hm_X} {n : Nat} {S : hm_S} (hC : hm_C X RX9 cX9_rowsOf 8 (some .int) 7 n S) {k24 : Nat → Int32 → Int32 → hm_M → Option (Int32 × hm_M)} (hk24 : ∀ (v0 : Nat) (v6 : Int32) (v7 : Int32)  (M : hm_M) (r : Int32) (M' : hm_M), k24 v0 v6 v7 M = some (r, M') → hm_U X 24 [(0, .ref v0), (6, .int v6), (7, .int v7)] [] M (hm_Q X (some (.int r)) M')) {v0 : Nat} {v6 : Int32} {v7 : Int32} {M : hm_M} {r : Int32} {M' : hm_M} (hF : b_Walk_rowsOf_1 S k24 v0 v6 v7 M = some (r, M')) : hm_U X 24 [(0, .ref v0), (6, .int v6), (7, .int v7)] [] M (hm_Q X (some (.int r)) M') := by
  unfold b_Walk_rowsOf_1 at hF
  refine jv_iload hC 2 dX9_rowsOf_24 rfl ?_
  refine jv_bipush hC dX9_rowsOf_26 c8_64 ?_
  refine jv_icmp_ge hC 49 dX9_rowsOf_28 (by decide) (fun h1 => ?_) (fun h1 => ?_)
  · have hF := hi_pos h1 hF
    refine jv_iload hC 1 dX9_rowsOf_49 rfl ?_
    obtain ⟨rfl, rfl⟩ := hr_some hF
    exact jv_iret hC dX9_rowsOf_51
  · have hF := hi_neg h1 hF
    refine jv_iload hC 1 dX9_rowsOf_31 rfl ?_
    refine jv_aload_n hC 0 dX9_rowsOf_33 rfl ?_
    obtain ⟨g2, hF⟩ := hg_some hF
    obtain ⟨g3, hF⟩ := hg_some hF
    refine jv_getR hC fl_X9_9 dX9_rowsOf_34 rfl g2 g3 ?_
    refine jv_iload hC 2 dX9_rowsOf_37 rfl ?_
    obtain ⟨g4, hF⟩ := hg_some hF
    obtain ⟨n5, sn5, in5⟩ := hm_ib_ok g4
    refine jv_iaload hC dX9_rowsOf_39 sn5 in5 ?_
    refine jv_iadd hC dX9_rowsOf_40 ?_
    obtain ⟨x6, e7, hF⟩ := hl_some hF
    refine jv_topI e7 ?_
    refine jv_istore hC [(6, .int x6), (0, .ref v0), (7, .int v7)] dX9_rowsOf_41 (by decide) rfl ?_
    refine jv_pc 43 rfl ?_
    refine jv_iinc hC 2 [(7, .int (v7 + (1 : Int32))), (6, .int x6), (0, .ref v0)] dX9_rowsOf_43 rfl c32_1 (by decide) rfl ?_
    refine jv_goto hC 24 dX9_rowsOf_46 (by decide) ?_
    refine jv_sub [2, 1, 0] (ls' := [(0, .ref v0), (6, .int x6), (7, .int (v7 + (1 : Int32)))]) rfl ?_
    exact jv_pc 24 rfl (hk24 _ _ _ _ _ _ hF)
theorem s_Walk_rowsOf_1 {X : hm_X} {n : Nat} {S : hm_S} (hC : hm_C X RX9 cX9_rowsOf 8 (some .int) 7 n S) : ∀ (q : Nat) (v0 : Nat) (v6 : Int32) (v7 : Int32) (M : hm_M) (r : Int32) (M' : hm_M), f_Walk_rowsOf_1 S  q v0 v6 v7 M = some (r, M') → hm_U X 24 [(0, .ref v0), (6, .int v6), (7, .int v7)] [] M (hm_Q X (some (.int r)) M') := by
  intro q
  induction q with
  | zero => intro v0 v6 v7 M r M' hF; cases hF
  | succ q ih => intro v0 v6 v7 M r M' hF; exact t_Walk_rowsOf_1 hC ih hF
set_option maxRecDepth 100000 in
set_option maxHeartbeats 4000000 in
theorem k_Walk_rowsOf {n : Nat} {S : hm_S} {v0 : Nat} {v1 : Nat} {v2 : Int32} {v3 : Int32} {v4 : Int32} {v5 : Int32} {M : hm_M} {r : Int32} {M' : hm_M} (hF : f_Walk_rowsOf S v0 v1 v2 v3 v4 v5 M = some (r, M')) : hm_KM yX9_rowsOf cX9_rowsOf 8 (some .int) 7 n S [.ref v0, .ref v1, .int v2, .int v3, .int v4, .int v5] M (some (.int r)) M' := by
  refine hm_enter mm_Walk_rowsOf (Nat.le_of_ble_eq_true rfl) (fun X hC => ?_)
  show hm_U X 0 [(0, .ref v0), (1, .ref v1), (2, .int v2), (3, .int v3), (4, .int v4), (5, .int v5)] [] M _
  unfold f_Walk_rowsOf at hF
  refine jv_aload_n hC 0 dX9_rowsOf_0 rfl ?_
  refine jv_aload_n hC 1 dX9_rowsOf_1 rfl ?_
  refine jv_iload_n hC 2 dX9_rowsOf_2 rfl ?_
  refine jv_iload_n hC 3 dX9_rowsOf_3 rfl ?_
  refine jv_iload hC 5 dX9_rowsOf_4 rfl ?_
  refine jv_iconst hC dX9_rowsOf_6 c32_0 ?_
  refine jv_iload hC 4 dX9_rowsOf_7 rfl ?_
  refine jv_pc 9 rfl ?_
  refine jv_iconst hC dX9_rowsOf_9 c32_1 ?_
  refine jv_isub hC dX9_rowsOf_10 ?_
  refine jv_aload_n hC 0 dX9_rowsOf_11 rfl ?_
  obtain ⟨g1, hF⟩ := hg_some hF
  obtain ⟨g2, hF⟩ := hg_some hF
  refine jv_getR hC fl_X9_9 dX9_rowsOf_12 rfl g1 g2 ?_
  obtain ⟨M4, c3, hF⟩ := hv_some hF
  refine jv_callV hC (st := []) [.ref v1, .int v2, .int v3, .int v5, .int (0 : Int32), .int (v4 - (1 : Int32)), .ref (M.2.2 v0 0)] (k_Walk_go c3) mm_Walk_go mi_Walk_go ml_X9_21 dX9_rowsOf_15 g1 rfl (Nat.le_of_ble_eq_true rfl) rfl rfl (Nat.le_of_ble_eq_true rfl) ?_
  refine jv_nf 18 [] rfl rfl ?_
  refine jv_iconst hC dX9_rowsOf_18 c32_0 ?_
  refine jv_istore hC [(6, .int (0 : Int32)), (0, .ref v0), (1, .ref v1), (2, .int v2), (3, .int v3), (4, .int v4), (5, .int v5)] dX9_rowsOf_19 (by decide) rfl ?_
  refine jv_sub [0, 1] (ls' := [(6, .int (0 : Int32)), (0, .ref v0)]) rfl ?_
  refine jv_iconst hC dX9_rowsOf_21 c32_0 ?_
  refine jv_istore hC [(7, .int (0 : Int32)), (6, .int (0 : Int32)), (0, .ref v0)] dX9_rowsOf_22 (by decide) rfl ?_
  refine jv_sub [2, 1, 0] (ls' := [(0, .ref v0), (6, .int (0 : Int32)), (7, .int (0 : Int32))]) rfl ?_
  exact jv_pc 24 rfl (s_Walk_rowsOf_1 hC hN _ _ _ _ _ _ hF)
set_option maxRecDepth 100000 in
set_option maxHeartbeats 4000000 in
theorem k_Ps_stains {n : Nat} {S : hm_S} {v0 : Nat} {v1 : Int32} {v2 : Int32} {v3 : Int32} {v4 : Int32} {M : hm_M} {r : Int32} {M' : hm_M} (hF : f_Ps_stains S v0 v1 v2 v3 v4 M = some (r, M')) : hm_KM yX11_stains cX11_stains 5 (some .int) 8 n S [.ref v0, .int v1, .int v2, .int v3, .int v4] M (some (.int r)) M' := by
  refine hm_enter mm_Ps_stains (Nat.le_of_ble_eq_true rfl) (fun X hC => ?_)
  show hm_U X 0 [(0, .ref v0), (1, .int v1), (2, .int v2), (3, .int v3), (4, .int v4)] [] M _
  unfold f_Ps_stains at hF
  refine jv_aload_n hC 0 dX11_stains_0 rfl ?_
  refine jv_iload_n hC 1 dX11_stains_1 rfl ?_
  refine jv_iload_n hC 2 dX11_stains_2 rfl ?_
  refine jv_iload_n hC 3 dX11_stains_3 rfl ?_
  refine jv_iload hC 4 dX11_stains_4 rfl ?_
  obtain ⟨g1, hF⟩ := hg_some hF
  obtain ⟨r4, M3, c2, hF⟩ := hb_some hF
  refine jv_callV hC (st := []) [.int v1, .int v2, .int v3, .int v4] (k_Ps_isStained c2) mm_Ps_isStained mi_Ps_isStained ml_X11_252 dX11_stains_6 g1 rfl (Nat.le_of_ble_eq_true rfl) rfl rfl (Nat.le_of_ble_eq_true rfl) ?_
  refine jv_nf 9 [.int r4] rfl rfl ?_
  refine jv_if_ne hC 14 dX11_stains_9 (by decide) (fun h5 => ?_) (fun h5 => ?_)
  · have hF := hi_neg h5 hF
    refine jv_aload_n hC 0 dX11_stains_14 rfl ?_
    obtain ⟨g6, hF⟩ := hg_some hF
    refine jv_getR hC fl_X11_61 dX11_stains_15 rfl g1 g6 ?_
    refine jv_aload_n hC 0 dX11_stains_18 rfl ?_
    obtain ⟨g7, hF⟩ := hg_some hF
    refine jv_getR hC fl_X11_19 dX11_stains_19 rfl g1 g7 ?_
    refine jv_aload_n hC 0 dX11_stains_22 rfl ?_
    obtain ⟨g8, hF⟩ := hg_some hF
    refine jv_getR hC fl_X11_26 dX11_stains_23 rfl g1 g8 ?_
    obtain ⟨g9, hF⟩ := hg_some hF
    obtain ⟨r12, M11, c10, hF⟩ := hb_some hF
    refine jv_callV hC (st := [.ref (M3.2.2 v0 1), .ref (M3.2.2 v0 7)]) [] (k_Hold_lit c10) mm_Hold_lit mi_Hold_lit ml_X11_165 dX11_stains_26 g9 rfl (Nat.le_of_ble_eq_true rfl) rfl rfl (Nat.le_of_ble_eq_true rfl) ?_
    refine jv_nf 29 [.int r12, .ref (M3.2.2 v0 1), .ref (M3.2.2 v0 7)] rfl rfl ?_
    refine jv_iload_n hC 1 dX11_stains_29 rfl ?_
    refine jv_iload_n hC 2 dX11_stains_30 rfl ?_
    obtain ⟨r15, M14, c13, hF⟩ := hb_some hF
    refine jv_callS hC (st := [.int r12, .ref (M3.2.2 v0 1), .ref (M3.2.2 v0 7)]) [.int v1, .int v2] (k_Ps_timeOf c13) mm_Ps_timeOf ms_Ps_timeOf ml_X11_148 dX11_stains_31 (Nat.le_of_ble_eq_true rfl) rfl rfl (Nat.le_of_ble_eq_true rfl) ?_
    refine jv_nf 34 [.int r15, .int r12, .ref (M3.2.2 v0 1), .ref (M3.2.2 v0 7)] rfl rfl ?_
    refine jv_iload_n hC 3 dX11_stains_34 rfl ?_
    refine jv_iload hC 4 dX11_stains_35 rfl ?_
    obtain ⟨g16, hF⟩ := hg_some hF
    obtain ⟨r19, M18, c17, hF⟩ := hb_some hF
    refine jv_callV hC (st := []) [.ref (M3.2.2 v0 1), .int r12, .int r15, .int v3, .int v4] (k_Walk_rowsOf c17) mm_Walk_rowsOf mi_Walk_rowsOf ml_X11_256 dX11_stains_37 g16 rfl (Nat.le_of_ble_eq_true rfl) rfl rfl (Nat.le_of_ble_eq_true rfl) ?_
    refine jv_nf 40 [.int r19] rfl rfl ?_
    obtain ⟨rfl, rfl⟩ := hr_some hF
    exact jv_iret hC dX11_stains_40
  · have hF := hi_pos h5 hF
    refine jv_iconst hC dX11_stains_12 c32_m1 ?_
    obtain ⟨rfl, rfl⟩ := hr_some hF
    exact jv_iret hC dX11_stains_13
set_option maxRecDepth 100000 in
set_option maxHeartbeats 4000000 in
theorem k_Ps_stall {n : Nat} {S : hm_S} {v0 : Nat} {v1 : Int32} {v2 : Int32} {v3 : Int32} {v4 : Int32} {v5 : Int32} {M : hm_M} {r : Int32} {M' : hm_M} (hF : f_Ps_stall S v0 v1 v2 v3 v4 v5 M = some (r, M')) : hm_KM yX11_stall cX11_stall 7 (some .int) 6 n S [.ref v0, .int v1, .int v2, .int v3, .int v4, .int v5] M (some (.int r)) M' := by
  refine hm_enter mm_Ps_stall (Nat.le_of_ble_eq_true rfl) (fun X hC => ?_)
  show hm_U X 0 [(0, .ref v0), (1, .int v1), (2, .int v2), (3, .int v3), (4, .int v4), (5, .int v5)] [] M _
  unfold f_Ps_stall at hF
  refine jv_aload_n hC 0 dX11_stall_0 rfl ?_
  refine jv_iload_n hC 1 dX11_stall_1 rfl ?_
  obtain ⟨g1, hF⟩ := hg_some hF
  obtain ⟨r4, M3, c2, hF⟩ := hb_some hF
  refine jv_callV hC (st := []) [.int v1] (k_Ps_isGuild c2) mm_Ps_isGuild mi_Ps_isGuild ml_X11_109 dX11_stall_2 g1 rfl (Nat.le_of_ble_eq_true rfl) rfl rfl (Nat.le_of_ble_eq_true rfl) ?_
  refine jv_nf 5 [.int r4] rfl rfl ?_
  refine jv_if_eq hC 31 dX11_stall_5 (by decide) (fun h5 => ?_) (fun h5 => ?_)
  · have hF := hi_pos h5 hF
    refine jv_iconst hC dX11_stall_31 c32_m1 ?_
    obtain ⟨rfl, rfl⟩ := hr_some hF
    exact jv_iret hC dX11_stall_32
  · have hF := hi_neg h5 hF
    refine jv_iload_n hC 2 dX11_stall_8 rfl ?_
    refine jv_iload_n hC 3 dX11_stall_9 rfl ?_
    obtain ⟨r8, M7, c6, hF⟩ := hb_some hF
    refine jv_callS hC (st := []) [.int v2, .int v3] (k_Ps_isTime c6) mm_Ps_isTime ms_Ps_isTime ml_X11_144 dX11_stall_10 (Nat.le_of_ble_eq_true rfl) rfl rfl (Nat.le_of_ble_eq_true rfl) ?_
    refine jv_nf 13 [.int r8] rfl rfl ?_
    refine jv_if_eq hC 31 dX11_stall_13 (by decide) (fun h9 => ?_) (fun h9 => ?_)
    · have hF := hi_pos h9 hF
      refine jv_iconst hC dX11_stall_31 c32_m1 ?_
      obtain ⟨rfl, rfl⟩ := hr_some hF
      exact jv_iret hC dX11_stall_32
    · have hF := hi_neg h9 hF
      refine jv_iload_n hC 2 dX11_stall_16 rfl ?_
      refine jv_iload hC 4 dX11_stall_17 rfl ?_
      obtain ⟨r12, M11, c10, hF⟩ := hb_some hF
      refine jv_callS hC (st := []) [.int v2, .int v4] (k_Ps_isTime c10) mm_Ps_isTime ms_Ps_isTime ml_X11_144 dX11_stall_19 (Nat.le_of_ble_eq_true rfl) rfl rfl (Nat.le_of_ble_eq_true rfl) ?_
      refine jv_nf 22 [.int r12] rfl rfl ?_
      refine jv_if_eq hC 31 dX11_stall_22 (by decide) (fun h13 => ?_) (fun h13 => ?_)
      · have hF := hi_pos h13 hF
        refine jv_iconst hC dX11_stall_31 c32_m1 ?_
        obtain ⟨rfl, rfl⟩ := hr_some hF
        exact jv_iret hC dX11_stall_32
      · have hF := hi_neg h13 hF
        refine jv_iload hC 4 dX11_stall_25 rfl ?_
        refine jv_iload_n hC 3 dX11_stall_27 rfl ?_
        refine jv_icmp_ge hC 33 dX11_stall_28 (by decide) (fun h14 => ?_) (fun h14 => ?_)
        · have hF := hi_pos h14 hF
          refine jv_iload hC 4 dX11_stall_33 rfl ?_
          refine jv_iload_n hC 3 dX11_stall_35 rfl ?_
          refine jv_isub hC dX11_stall_36 ?_
          refine jv_iconst hC dX11_stall_37 c32_1 ?_
          refine jv_iadd hC dX11_stall_38 ?_
          obtain ⟨x15, e16, hF⟩ := hl_some hF
          refine jv_topI e16 ?_
          refine jv_istore hC [(6, .int x15), (0, .ref v0), (1, .int v1), (2, .int v2), (3, .int v3), (4, .int v4), (5, .int v5)] dX11_stall_39 (by decide) rfl ?_
          refine jv_sub [0, 1, 2, 3, 4, 6] (ls' := [(6, .int x15), (0, .ref v0), (1, .int v1), (2, .int v2), (3, .int v3), (5, .int v5)]) rfl ?_
          refine jv_iload hC 5 dX11_stall_41 rfl ?_
          refine jv_pc 43 rfl ?_
          refine jv_iconst hC dX11_stall_43 c32_m1 ?_
          refine jv_icmp_lt hC 54 dX11_stall_44 (by decide) (fun h17 => ?_) (fun h17 => ?_)
          · have hF := hi_pos h17 hF
            refine jv_iconst hC dX11_stall_54 c32_m1 ?_
            obtain ⟨rfl, rfl⟩ := hr_some hF
            exact jv_iret hC dX11_stall_55
          · have hF := hi_neg h17 hF
            refine jv_iload hC 5 dX11_stall_47 rfl ?_
            refine jv_iload hC 0 dX11_stall_49 rfl ?_
            refine jv_icmp_lt hC 56 dX11_stall_51 (by decide) (fun h18 => ?_) (fun h18 => ?_)
            · have hF := hi_pos h18 hF
              refine jv_aload_n hC 1 dX11_stall_56 rfl ?_
              obtain ⟨g19, hF⟩ := hg_some hF
              refine jv_getR hC fl_X11_54 dX11_stall_57 rfl g1 g19 ?_
              refine jv_aload_n hC 1 dX11_stall_60 rfl ?_
              obtain ⟨g20, hF⟩ := hg_some hF
              refine jv_getR hC fl_X11_19 dX11_stall_61 rfl g1 g20 ?_
              refine jv_aload_n hC 1 dX11_stall_64 rfl ?_
              obtain ⟨g21, hF⟩ := hg_some hF
              refine jv_getR hC fl_X11_26 dX11_stall_65 rfl g1 g21 ?_
              refine jv_iload_n hC 2 dX11_stall_68 rfl ?_
              refine jv_pc 69 rfl ?_
              obtain ⟨g22, hF⟩ := hg_some hF
              obtain ⟨r25, M24, c23, hF⟩ := hb_some hF
              refine jv_callV hC (st := [.ref (M11.2.2 v0 1), .ref (M11.2.2 v0 6)]) [.int v1] (k_Hold_panesOf c23) mm_Hold_panesOf mi_Hold_panesOf ml_X11_122 dX11_stall_69 g22 rfl (Nat.le_of_ble_eq_true rfl) rfl rfl (Nat.le_of_ble_eq_true rfl) ?_
              refine jv_nf 72 [.int r25, .ref (M11.2.2 v0 1), .ref (M11.2.2 v0 6)] rfl rfl ?_
              refine jv_aload_n hC 1 dX11_stall_72 rfl ?_
              obtain ⟨g26, hF⟩ := hg_some hF
              refine jv_getR hC fl_X11_26 dX11_stall_73 rfl g1 g26 ?_
              obtain ⟨g27, hF⟩ := hg_some hF
              obtain ⟨r30, M29, c28, hF⟩ := hb_some hF
              refine jv_callV hC (st := [.int r25, .ref (M11.2.2 v0 1), .ref (M11.2.2 v0 6)]) [] (k_Hold_lit c28) mm_Hold_lit mi_Hold_lit ml_X11_165 dX11_stall_76 g27 rfl (Nat.le_of_ble_eq_true rfl) rfl rfl (Nat.le_of_ble_eq_true rfl) ?_
              refine jv_nf 79 [.int r30, .int r25, .ref (M11.2.2 v0 1), .ref (M11.2.2 v0 6)] rfl rfl ?_
              refine jv_iand hC dX11_stall_79 ?_
              refine jv_iload_n hC 3 dX11_stall_80 rfl ?_
              refine jv_iload_n hC 4 dX11_stall_81 rfl ?_
              obtain ⟨r33, M32, c31, hF⟩ := hb_some hF
              refine jv_callS hC (st := [.int (r25 &&& r30), .ref (M11.2.2 v0 1), .ref (M11.2.2 v0 6)]) [.int v2, .int v3] (k_Ps_timeOf c31) mm_Ps_timeOf ms_Ps_timeOf ml_X11_148 dX11_stall_82 (Nat.le_of_ble_eq_true rfl) rfl rfl (Nat.le_of_ble_eq_true rfl) ?_
              refine jv_nf 85 [.int r33, .int (r25 &&& r30), .ref (M11.2.2 v0 1), .ref (M11.2.2 v0 6)] rfl rfl ?_
              refine jv_iload hC 0 dX11_stall_85 rfl ?_
              obtain ⟨g34, hF⟩ := hg_some hF
              obtain ⟨M36, c35, hF⟩ := hv_some hF
              refine jv_callV hC (st := []) [.ref (M11.2.2 v0 1), .int (r25 &&& r30), .int r33, .int x15] (k_Way_find c35) mm_Way_find mi_Way_find ml_X11_233 dX11_stall_87 g34 rfl (Nat.le_of_ble_eq_true rfl) rfl rfl (Nat.le_of_ble_eq_true rfl) ?_
              refine jv_nf 90 [] rfl rfl ?_
              refine jv_iload hC 5 dX11_stall_90 rfl ?_
              refine jv_iconst hC dX11_stall_92 c32_m1 ?_
              refine jv_icmp_ne hC 106 dX11_stall_93 (by decide) (fun h37 => ?_) (fun h37 => ?_)
              · have hF := hi_neg h37 hF
                refine jv_aload_n hC 1 dX11_stall_106 rfl ?_
                obtain ⟨g38, hF⟩ := hg_some hF
                refine jv_getR hC fl_X11_54 dX11_stall_107 rfl g1 g38 ?_
                obtain ⟨g39, hF⟩ := hg_some hF
                obtain ⟨g40, hF⟩ := hg_some hF
                refine jv_getR hC fl_X11_240 dX11_stall_110 rfl g39 g40 ?_
                refine jv_iload hC 5 dX11_stall_113 rfl ?_
                obtain ⟨g41, hF⟩ := hg_some hF
                obtain ⟨n42, sn42, in42⟩ := hm_ib_ok g41
                refine jv_iaload hC dX11_stall_115 sn42 in42 ?_
                obtain ⟨rfl, rfl⟩ := hr_some hF
                exact jv_iret hC dX11_stall_116
              · have hF := hi_pos h37 hF
                refine jv_aload_n hC 1 dX11_stall_96 rfl ?_
                obtain ⟨g43, hF⟩ := hg_some hF
                refine jv_getR hC fl_X11_54 dX11_stall_97 rfl g1 g43 ?_
                obtain ⟨g44, hF⟩ := hg_some hF
                refine jv_getI hC fl_X11_237 dX11_stall_100 rfl g44 ?_
                refine jv_goto hC 116 dX11_stall_103 (by decide) ?_
                obtain ⟨rfl, rfl⟩ := hr_some hF
                exact jv_iret hC dX11_stall_116
            · have hF := hi_neg h18 hF
              refine jv_iconst hC dX11_stall_54 c32_m1 ?_
              obtain ⟨rfl, rfl⟩ := hr_some hF
              exact jv_iret hC dX11_stall_55
        · have hF := hi_neg h14 hF
          refine jv_iconst hC dX11_stall_31 c32_m1 ?_
          obtain ⟨rfl, rfl⟩ := hr_some hF
          exact jv_iret hC dX11_stall_32
set_option maxRecDepth 100000 in
set_option maxHeartbeats 4000000 in
theorem k_Walk_meet {n : Nat} {S : hm_S} {v0 : Nat} {v1 : Nat} {v2 : Int32} {v3 : Int32} {v4 : Int32} {v5 : Int32} {v6 : Int32} {M : hm_M} {M' : hm_M} (hF : f_Walk_meet S v0 v1 v2 v3 v4 v5 v6 M = some M') : hm_KM yX9_meet cX9_meet 7 none 7 n S [.ref v0, .ref v1, .int v2, .int v3, .int v4, .int v5, .int v6] M none M' := by
  refine hm_enter mm_Walk_meet (Nat.le_of_ble_eq_true rfl) (fun X hC => ?_)
  show hm_U X 0 [(0, .ref v0), (1, .ref v1), (2, .int v2), (3, .int v3), (4, .int v4), (5, .int v5), (6, .int v6)] [] M _
  unfold f_Walk_meet at hF
  refine jv_aload_n hC 0 dX9_meet_0 rfl ?_
  refine jv_aload_n hC 1 dX9_meet_1 rfl ?_
  refine jv_iload_n hC 2 dX9_meet_2 rfl ?_
  refine jv_iload_n hC 3 dX9_meet_3 rfl ?_
  refine jv_iload hC 5 dX9_meet_4 rfl ?_
  refine jv_iload hC 4 dX9_meet_6 rfl ?_
  refine jv_iconst hC dX9_meet_8 c32_1 ?_
  refine jv_pc 9 rfl ?_
  refine jv_isub hC dX9_meet_9 ?_
  refine jv_iload hC 6 dX9_meet_10 rfl ?_
  refine jv_aload_n hC 0 dX9_meet_12 rfl ?_
  obtain ⟨g1, hF⟩ := hg_some hF
  obtain ⟨g2, hF⟩ := hg_some hF
  refine jv_getR hC fl_X9_15 dX9_meet_13 rfl g1 g2 ?_
  obtain ⟨M4, c3, hF⟩ := hv_some hF
  refine jv_callV hC (st := []) [.ref v1, .int v2, .int v3, .int v5, .int (v4 - (1 : Int32)), .int v6, .ref (M.2.2 v0 1)] (k_Walk_go c3) mm_Walk_go mi_Walk_go ml_X9_21 dX9_meet_16 g1 rfl (Nat.le_of_ble_eq_true rfl) rfl rfl (Nat.le_of_ble_eq_true rfl) ?_
  refine jv_nf 19 [] rfl rfl ?_
  refine jv_aload_n hC 0 dX9_meet_19 rfl ?_
  refine jv_aload_n hC 1 dX9_meet_20 rfl ?_
  refine jv_iload_n hC 2 dX9_meet_21 rfl ?_
  refine jv_iload_n hC 3 dX9_meet_22 rfl ?_
  refine jv_iload hC 5 dX9_meet_23 rfl ?_
  refine jv_iconst hC dX9_meet_25 c32_0 ?_
  refine jv_iload hC 6 dX9_meet_26 rfl ?_
  refine jv_pc 28 rfl ?_
  refine jv_aload_n hC 0 dX9_meet_28 rfl ?_
  obtain ⟨g5, hF⟩ := hg_some hF
  refine jv_getR hC fl_X9_9 dX9_meet_29 rfl g1 g5 ?_
  obtain ⟨M7, c6, hF⟩ := hv_some hF
  refine jv_callV hC (st := []) [.ref v1, .int v2, .int v3, .int v5, .int (0 : Int32), .int v6, .ref (M4.2.2 v0 0)] (k_Walk_go c6) mm_Walk_go mi_Walk_go ml_X9_21 dX9_meet_32 g1 rfl (Nat.le_of_ble_eq_true rfl) rfl rfl (Nat.le_of_ble_eq_true rfl) ?_
  refine jv_nf 35 [] rfl rfl ?_
  obtain rfl := hr_somev hF
  exact jv_vret hC dX9_meet_35
set_option maxRecDepth 100000 in
set_option maxHeartbeats 4000000 in
theorem k_Ps_stood {n : Nat} {S : hm_S} {v0 : Nat} {v1 : Int32} {v2 : Int32} {v3 : Int32} {v4 : Int32} {v5 : Int32} {v6 : Int32} {M : hm_M} {r : Int32} {M' : hm_M} (hF : f_Ps_stood S v0 v1 v2 v3 v4 v5 v6 M = some (r, M')) : hm_KM yX11_stood cX11_stood 7 (some .int) 8 n S [.ref v0, .int v1, .int v2, .int v3, .int v4, .int v5, .int v6] M (some (.int r)) M' := by
  refine hm_enter mm_Ps_stood (Nat.le_of_ble_eq_true rfl) (fun X hC => ?_)
  show hm_U X 0 [(0, .ref v0), (1, .int v1), (2, .int v2), (3, .int v3), (4, .int v4), (5, .int v5), (6, .int v6)] [] M _
  unfold f_Ps_stood at hF
  refine jv_aload_n hC 0 dX11_stood_0 rfl ?_
  refine jv_iload_n hC 1 dX11_stood_1 rfl ?_
  refine jv_iload_n hC 2 dX11_stood_2 rfl ?_
  refine jv_iload_n hC 3 dX11_stood_3 rfl ?_
  refine jv_iload hC 4 dX11_stood_4 rfl ?_
  obtain ⟨g1, hF⟩ := hg_some hF
  obtain ⟨r4, M3, c2, hF⟩ := hb_some hF
  refine jv_callV hC (st := []) [.int v1, .int v2, .int v3, .int v4] (k_Ps_isStained c2) mm_Ps_isStained mi_Ps_isStained ml_X11_252 dX11_stood_6 g1 rfl (Nat.le_of_ble_eq_true rfl) rfl rfl (Nat.le_of_ble_eq_true rfl) ?_
  refine jv_nf 9 [.int r4] rfl rfl ?_
  refine jv_if_eq hC 23 dX11_stood_9 (by decide) (fun h5 => ?_) (fun h5 => ?_)
  · have hF := hi_pos h5 hF
    refine jv_iconst hC dX11_stood_23 c32_m1 ?_
    obtain ⟨rfl, rfl⟩ := hr_some hF
    exact jv_iret hC dX11_stood_24
  · have hF := hi_neg h5 hF
    refine jv_iload hC 5 dX11_stood_12 rfl ?_
    refine jv_if_lt hC 23 dX11_stood_14 (by decide) (fun h6 => ?_) (fun h6 => ?_)
    · have hF := hi_pos h6 hF
      refine jv_iconst hC dX11_stood_23 c32_m1 ?_
      obtain ⟨rfl, rfl⟩ := hr_some hF
      exact jv_iret hC dX11_stood_24
    · have hF := hi_neg h6 hF
      refine jv_iload hC 5 dX11_stood_17 rfl ?_
      refine jv_iload_n hC 3 dX11_stood_19 rfl ?_
      refine jv_icmp_lt hC 25 dX11_stood_20 (by decide) (fun h7 => ?_) (fun h7 => ?_)
      · have hF := hi_pos h7 hF
        refine jv_aload_n hC 0 dX11_stood_25 rfl ?_
        obtain ⟨g8, hF⟩ := hg_some hF
        refine jv_getR hC fl_X11_61 dX11_stood_26 rfl g1 g8 ?_
        refine jv_aload_n hC 0 dX11_stood_29 rfl ?_
        obtain ⟨g9, hF⟩ := hg_some hF
        refine jv_getR hC fl_X11_19 dX11_stood_30 rfl g1 g9 ?_
        refine jv_aload_n hC 0 dX11_stood_33 rfl ?_
        obtain ⟨g10, hF⟩ := hg_some hF
        refine jv_getR hC fl_X11_26 dX11_stood_34 rfl g1 g10 ?_
        obtain ⟨g11, hF⟩ := hg_some hF
        obtain ⟨r14, M13, c12, hF⟩ := hb_some hF
        refine jv_callV hC (st := [.ref (M3.2.2 v0 1), .ref (M3.2.2 v0 7)]) [] (k_Hold_lit c12) mm_Hold_lit mi_Hold_lit ml_X11_165 dX11_stood_37 g11 rfl (Nat.le_of_ble_eq_true rfl) rfl rfl (Nat.le_of_ble_eq_true rfl) ?_
        refine jv_nf 40 [.int r14, .ref (M3.2.2 v0 1), .ref (M3.2.2 v0 7)] rfl rfl ?_
        refine jv_iload_n hC 1 dX11_stood_40 rfl ?_
        refine jv_iload_n hC 2 dX11_stood_41 rfl ?_
        obtain ⟨r17, M16, c15, hF⟩ := hb_some hF
        refine jv_callS hC (st := [.int r14, .ref (M3.2.2 v0 1), .ref (M3.2.2 v0 7)]) [.int v1, .int v2] (k_Ps_timeOf c15) mm_Ps_timeOf ms_Ps_timeOf ml_X11_148 dX11_stood_42 (Nat.le_of_ble_eq_true rfl) rfl rfl (Nat.le_of_ble_eq_true rfl) ?_
        refine jv_nf 45 [.int r17, .int r14, .ref (M3.2.2 v0 1), .ref (M3.2.2 v0 7)] rfl rfl ?_
        refine jv_iload_n hC 3 dX11_stood_45 rfl ?_
        refine jv_iload hC 4 dX11_stood_46 rfl ?_
        refine jv_iload hC 5 dX11_stood_48 rfl ?_
        obtain ⟨g18, hF⟩ := hg_some hF
        obtain ⟨M20, c19, hF⟩ := hv_some hF
        refine jv_callV hC (st := []) [.ref (M3.2.2 v0 1), .int r14, .int r17, .int v3, .int v4, .int v5] (k_Walk_meet c19) mm_Walk_meet mi_Walk_meet ml_X11_260 dX11_stood_50 g18 rfl (Nat.le_of_ble_eq_true rfl) rfl rfl (Nat.le_of_ble_eq_true rfl) ?_
        refine jv_nf 53 [] rfl rfl ?_
        refine jv_iload hC 6 dX11_stood_53 rfl ?_
        refine jv_if_eq hC 65 dX11_stood_55 (by decide) (fun h21 => ?_) (fun h21 => ?_)
        · have hF := hi_pos h21 hF
          refine jv_aload_n hC 0 dX11_stood_65 rfl ?_
          obtain ⟨r24, M23, c22, hF⟩ := hb_some hF
          refine jv_callV hC (st := []) [] (k_Ps_ownersOnAll c22) mm_Ps_ownersOnAll mi_Ps_ownersOnAll ml_X11_267 dX11_stood_66 g1 rfl (Nat.le_of_ble_eq_true rfl) rfl rfl (Nat.le_of_ble_eq_true rfl) ?_
          refine jv_nf 69 [.int r24] rfl rfl ?_
          obtain ⟨rfl, rfl⟩ := hr_some hF
          exact jv_iret hC dX11_stood_69
        · have hF := hi_neg h21 hF
          refine jv_aload_n hC 0 dX11_stood_58 rfl ?_
          obtain ⟨r27, M26, c25, hF⟩ := hb_some hF
          refine jv_callV hC (st := []) [] (k_Ps_ownersOnSome c25) mm_Ps_ownersOnSome mi_Ps_ownersOnSome ml_X11_264 dX11_stood_59 g1 rfl (Nat.le_of_ble_eq_true rfl) rfl rfl (Nat.le_of_ble_eq_true rfl) ?_
          refine jv_nf 62 [.int r27] rfl rfl ?_
          refine jv_goto hC 69 dX11_stood_62 (by decide) ?_
          obtain ⟨rfl, rfl⟩ := hr_some hF
          exact jv_iret hC dX11_stood_69
      · have hF := hi_neg h7 hF
        refine jv_iconst hC dX11_stood_23 c32_m1 ?_
        obtain ⟨rfl, rfl⟩ := hr_some hF
        exact jv_iret hC dX11_stood_24
set_option maxRecDepth 100000 in
set_option maxHeartbeats 4000000 in
theorem k_History_takeBack {n : Nat} {S : hm_S} {v0 : Nat} {v1 : Nat} {M : hm_M} {r : Int32} {M' : hm_M} (hF : f_History_takeBack S v0 v1 M = some (r, M')) : hm_KM yX1_takeBack cX1_takeBack 2 (some .boolean) 2 n S [.ref v0, .ref v1] M (some (.int r)) M' := by
  refine hm_enter mm_History_takeBack (Nat.le_of_ble_eq_true rfl) (fun X hC => ?_)
  show hm_U X 0 [(0, .ref v0), (1, .ref v1)] [] M _
  unfold f_History_takeBack at hF
  refine jv_aload_n hC 0 dX1_takeBack_0 rfl ?_
  obtain ⟨g1, hF⟩ := hg_some hF
  refine jv_getI hC fl_X1_18 dX1_takeBack_1 rfl g1 ?_
  refine jv_if_ne hC 9 dX1_takeBack_4 (by decide) (fun h2 => ?_) (fun h2 => ?_)
  · have hF := hi_neg h2 hF
    refine jv_aload_n hC 0 dX1_takeBack_9 rfl ?_
    refine jv_dup hC dX1_takeBack_10 rfl ?_
    refine jv_getI hC fl_X1_18 dX1_takeBack_11 rfl g1 ?_
    refine jv_iconst hC dX1_takeBack_14 c32_1 ?_
    refine jv_isub hC dX1_takeBack_15 ?_
    refine jv_putI hC fl_X1_18 dX1_takeBack_16 rfl rfl rfl g1 ?_
    obtain ⟨M3, e4, hF⟩ := hl_some hF
    refine jv_mem e4 ?_
    refine jv_aload_n hC 0 dX1_takeBack_19 rfl ?_
    refine jv_pc 20 rfl ?_
    refine jv_aload_n hC 0 dX1_takeBack_20 rfl ?_
    refine jv_getI hC fl_X1_22 dX1_takeBack_21 rfl g1 ?_
    refine jv_bipush hC dX1_takeBack_24 c8_20 ?_
    refine jv_iadd hC dX1_takeBack_26 ?_
    refine jv_iconst hC dX1_takeBack_27 c32_1 ?_
    refine jv_isub hC dX1_takeBack_28 ?_
    refine jv_bipush hC dX1_takeBack_29 c8_20 ?_
    refine jv_irem hC dX1_takeBack_31 (by decide) ?_
    refine jv_pc 32 rfl ?_
    refine jv_putI hC fl_X1_22 dX1_takeBack_32 rfl rfl rfl g1 ?_
    obtain ⟨M5, e6, hF⟩ := hl_some hF
    refine jv_mem e6 ?_
    refine jv_aload_n hC 0 dX1_takeBack_35 rfl ?_
    obtain ⟨g7, hF⟩ := hg_some hF
    refine jv_getR hC fl_X1_15 dX1_takeBack_36 rfl g1 g7 ?_
    refine jv_aload_n hC 0 dX1_takeBack_39 rfl ?_
    refine jv_getI hC fl_X1_22 dX1_takeBack_40 rfl g1 ?_
    obtain ⟨g8, hF⟩ := hg_some hF
    obtain ⟨n9, sn9, in9⟩ := hm_ib_ok g8
    refine jv_iaload hC dX1_takeBack_43 sn9 in9 ?_
    refine jv_iconst hC dX1_takeBack_44 c32_m1 ?_
    refine jv_icmp_ne hC 64 dX1_takeBack_45 (by decide) (fun h10 => ?_) (fun h10 => ?_)
    · have hF := hi_neg h10 hF
      refine jv_aload_n hC 1 dX1_takeBack_64 rfl ?_
      refine jv_aload_n hC 0 dX1_takeBack_65 rfl ?_
      obtain ⟨g11, hF⟩ := hg_some hF
      refine jv_getR hC fl_X1_9 dX1_takeBack_66 rfl g1 g11 ?_
      refine jv_aload_n hC 0 dX1_takeBack_69 rfl ?_
      refine jv_getI hC fl_X1_22 dX1_takeBack_70 rfl g1 ?_
      obtain ⟨g12, hF⟩ := hg_some hF
      obtain ⟨n13, sn13, in13⟩ := hm_ib_ok g12
      refine jv_iaload hC dX1_takeBack_73 sn13 in13 ?_
      refine jv_aload_n hC 0 dX1_takeBack_74 rfl ?_
      refine jv_pc 75 rfl ?_
      refine jv_getR hC fl_X1_15 dX1_takeBack_75 rfl g1 g7 ?_
      refine jv_aload_n hC 0 dX1_takeBack_78 rfl ?_
      refine jv_getI hC fl_X1_22 dX1_takeBack_79 rfl g1 ?_
      refine jv_iaload hC dX1_takeBack_82 sn9 in9 ?_
      obtain ⟨g14, hF⟩ := hg_some hF
      obtain ⟨M16, c15, hF⟩ := hv_some hF
      refine jv_callV hC (st := []) [.int (M5.1 (M5.2.2 v0 0) (M5.1 v0 3).toNatClampNeg), .int (M5.1 (M5.2.2 v0 1) (M5.1 v0 3).toNatClampNeg)] (k_Hold_swap c15) mm_Hold_swap mi_Hold_swap ml_X1_37 dX1_takeBack_83 g14 rfl (Nat.le_of_ble_eq_true rfl) rfl rfl (Nat.le_of_ble_eq_true rfl) ?_
      refine jv_nf 86 [] rfl rfl ?_
      refine jv_iconst hC dX1_takeBack_86 c32_1 ?_
      obtain ⟨rfl, rfl⟩ := hr_some hF
      exact jv_zret hC (by decide) dX1_takeBack_87
    · have hF := hi_pos h10 hF
      refine jv_aload_n hC 1 dX1_takeBack_48 rfl ?_
      refine jv_aload_n hC 0 dX1_takeBack_49 rfl ?_
      obtain ⟨g17, hF⟩ := hg_some hF
      refine jv_getR hC fl_X1_9 dX1_takeBack_50 rfl g1 g17 ?_
      refine jv_aload_n hC 0 dX1_takeBack_53 rfl ?_
      refine jv_getI hC fl_X1_22 dX1_takeBack_54 rfl g1 ?_
      obtain ⟨g18, hF⟩ := hg_some hF
      obtain ⟨n19, sn19, in19⟩ := hm_ib_ok g18
      refine jv_iaload hC dX1_takeBack_57 sn19 in19 ?_
      obtain ⟨g20, hF⟩ := hg_some hF
      obtain ⟨M22, c21, hF⟩ := hv_some hF
      refine jv_callV hC (st := []) [.int (M5.1 (M5.2.2 v0 0) (M5.1 v0 3).toNatClampNeg)] (k_Hold_turn c21) mm_Hold_turn mi_Hold_turn ml_X1_31 dX1_takeBack_58 g20 rfl (Nat.le_of_ble_eq_true rfl) rfl rfl (Nat.le_of_ble_eq_true rfl) ?_
      refine jv_nf 61 [] rfl rfl ?_
      refine jv_goto hC 86 dX1_takeBack_61 (by decide) ?_
      refine jv_iconst hC dX1_takeBack_86 c32_1 ?_
      obtain ⟨rfl, rfl⟩ := hr_some hF
      exact jv_zret hC (by decide) dX1_takeBack_87
  · have hF := hi_pos h2 hF
    refine jv_iconst hC dX1_takeBack_7 c32_0 ?_
    obtain ⟨rfl, rfl⟩ := hr_some hF
    exact jv_zret hC (by decide) dX1_takeBack_8
set_option maxRecDepth 100000 in
set_option maxHeartbeats 4000000 in
theorem k_Ps_undo {n : Nat} {S : hm_S} {v0 : Nat} {M : hm_M} {r : Int32} {M' : hm_M} (hF : f_Ps_undo S v0 M = some (r, M')) : hm_KM yX11_undo cX11_undo 1 (some .boolean) 3 n S [.ref v0] M (some (.int r)) M' := by
  refine hm_enter mm_Ps_undo (Nat.le_of_ble_eq_true rfl) (fun X hC => ?_)
  show hm_U X 0 [(0, .ref v0)] [] M _
  unfold f_Ps_undo at hF
  refine jv_aload_n hC 0 dX11_undo_0 rfl ?_
  obtain ⟨g1, hF⟩ := hg_some hF
  obtain ⟨g2, hF⟩ := hg_some hF
  refine jv_getR hC fl_X11_33 dX11_undo_1 rfl g1 g2 ?_
  refine jv_aload_n hC 0 dX11_undo_4 rfl ?_
  obtain ⟨g3, hF⟩ := hg_some hF
  refine jv_getR hC fl_X11_26 dX11_undo_5 rfl g1 g3 ?_
  obtain ⟨g4, hF⟩ := hg_some hF
  obtain ⟨r7, M6, c5, hF⟩ := hb_some hF
  refine jv_callV hC (st := []) [.ref (M.2.2 v0 2)] (k_History_takeBack c5) mm_History_takeBack mi_History_takeBack ml_X11_229 dX11_undo_8 g4 rfl (Nat.le_of_ble_eq_true rfl) rfl rfl (Nat.le_of_ble_eq_true rfl) ?_
  refine jv_nf 11 [.int r7] rfl rfl ?_
  obtain ⟨g8, hF⟩ := hg_some hF
  obtain ⟨rfl, rfl⟩ := hr_some hF
  exact jv_zret hC (hz_ok g8) dX11_undo_11
set_option maxRecDepth 100000 in
set_option maxHeartbeats 4000000 in
theorem s_Ps_when_2 {X : hm_X} {n : Nat} {S : hm_S} (hC : hm_C X RX11 cX11_when 7 (some .int) 6 n S) {k22 : Nat → Int32 → Int32 → Int32 → Int32 → Int32 → hm_M → Option (Int32 × hm_M)} (hk22 : ∀ (v0 : Nat) (v1 : Int32) (v2 : Int32) (v3 : Int32) (v4 : Int32) (v5 : Int32)  (M : hm_M) (r : Int32) (M' : hm_M), k22 v0 v1 v2 v3 v4 v5 M = some (r, M') → hm_U X 22 [(0, .ref v0), (1, .int v1), (2, .int v2), (3, .int v3), (4, .int v4), (5, .int v5)] [] M (hm_Q X (some (.int r)) M')) {v0 : Nat} {v1 : Int32} {v2 : Int32} {v3 : Int32} {v4 : Int32} {v5 : Int32} {v6 : Int32} {M : hm_M} {r : Int32} {M' : hm_M} (hF : b_Ps_when_2 S k22 v0 v1 v2 v3 v4 v5 v6 M = some (r, M')) : hm_U X 53 [(0, .ref v0), (1, .int v1), (2, .int v2), (3, .int v3), (4, .int v4), (5, .int v5), (6, .int v6)] [] M (hm_Q X (some (.int r)) M') := by
  unfold b_Ps_when_2 at hF
  refine jv_iload hC 6 dX11_when_53 rfl ?_
  refine jv_iload_n hC 3 dX11_when_55 rfl ?_
  refine jv_icmp_ne hC 62 dX11_when_56 (by decide) (fun h1 => ?_) (fun h1 => ?_)
  · have hF := hi_neg h1 hF
    refine jv_iinc hC 5 [(5, .int (v5 + (1 : Int32))), (0, .ref v0), (1, .int v1), (2, .int v2), (3, .int v3), (4, .int v4), (6, .int v6)] dX11_when_62 rfl c32_1 (by decide) rfl ?_
    refine jv_goto hC 22 dX11_when_65 (by decide) ?_
    refine jv_sub [1, 2, 3, 4, 5, 0] (ls' := [(0, .ref v0), (1, .int v1), (2, .int v2), (3, .int v3), (4, .int v4), (5, .int (v5 + (1 : Int32)))]) rfl ?_
    exact jv_pc 22 rfl (hk22 _ _ _ _ _ _ _ _ _ hF)
  · have hF := hi_pos h1 hF
    refine jv_iinc hC 4 [(4, .int (v4 + (1 : Int32))), (0, .ref v0), (1, .int v1), (2, .int v2), (3, .int v3), (5, .int v5), (6, .int v6)] dX11_when_59 rfl c32_1 (by decide) rfl ?_
    refine jv_iinc hC 5 [(5, .int (v5 + (1 : Int32))), (4, .int (v4 + (1 : Int32))), (0, .ref v0), (1, .int v1), (2, .int v2), (3, .int v3), (6, .int v6)] dX11_when_62 rfl c32_1 (by decide) rfl ?_
    refine jv_goto hC 22 dX11_when_65 (by decide) ?_
    refine jv_sub [2, 3, 4, 5, 1, 0] (ls' := [(0, .ref v0), (1, .int v1), (2, .int v2), (3, .int v3), (4, .int (v4 + (1 : Int32))), (5, .int (v5 + (1 : Int32)))]) rfl ?_
    exact jv_pc 22 rfl (hk22 _ _ _ _ _ _ _ _ _ hF)
set_option maxRecDepth 100000 in
set_option maxHeartbeats 4000000 in
theorem t_Ps_when_1 {X : hm_X} {n : Nat} {S : hm_S} (hC : hm_C X RX11 cX11_when 7 (some .int) 6 n S) {k22 : Nat → Int32 → Int32 → Int32 → Int32 → Int32 → hm_M → Option (Int32 × hm_M)} (hk22 : ∀ (v0 : Nat) (v1 : Int32) (v2 : Int32) (v3 : Int32) (v4 : Int32) (v5 : Int32)  (M : hm_M) (r : Int32) (M' : hm_M), k22 v0 v1 v2 v3 v4 v5 M = some (r, M') → hm_U X 22 [(0, .ref v0), (1, .int v1), (2, .int v2), (3, .int v3), (4, .int v4), (5, .int v5)] [] M (hm_Q X (some (.int r)) M')) {v0 : Nat} {v1 : Int32} {v2 : Int32} {v3 : Int32} {v4 : Int32} {v5 : Int32} {M : hm_M} {r : Int32} {M' : hm_M} (hF : b_Ps_when_1 S k22 v0 v1 v2 v3 v4 v5 M = some (r, M')) : hm_U X 22 [(0, .ref v0), (1, .int v1), (2, .int v2), (3, .int v3), (4, .int v4), (5, .int v5)] [] M (hm_Q X (some (.int r)) M') := by
  unfold b_Ps_when_1 at hF
  refine jv_iload hC 5 dX11_when_22 rfl ?_
  refine jv_sipush hC dX11_when_24 c16_1248 ?_
  refine jv_icmp_ge hC 68 dX11_when_27 (by decide) (fun h1 => ?_) (fun h1 => ?_)
  · have hF := hi_pos h1 hF
    refine jv_iload_n hC 1 dX11_when_68 rfl ?_
    refine jv_if_ne hC 74 dX11_when_69 (by decide) (fun h2 => ?_) (fun h2 => ?_)
    · have hF := hi_neg h2 hF
      refine jv_iload_n hC 1 dX11_when_74 rfl ?_
      refine jv_iconst hC dX11_when_75 c32_1 ?_
      refine jv_icmp_ne hC 83 dX11_when_76 (by decide) (fun h3 => ?_) (fun h3 => ?_)
      · have hF := hi_neg h3 hF
        refine jv_iload hC 4 dX11_when_83 rfl ?_
        obtain ⟨rfl, rfl⟩ := hr_some hF
        exact jv_iret hC dX11_when_85
      · have hF := hi_pos h3 hF
        refine jv_iload_n hC 3 dX11_when_79 rfl ?_
        refine jv_goto hC 85 dX11_when_80 (by decide) ?_
        obtain ⟨rfl, rfl⟩ := hr_some hF
        exact jv_iret hC dX11_when_85
    · have hF := hi_pos h2 hF
      refine jv_iload_n hC 2 dX11_when_72 rfl ?_
      obtain ⟨rfl, rfl⟩ := hr_some hF
      exact jv_iret hC dX11_when_73
  · have hF := hi_neg h1 hF
    refine jv_aload_n hC 0 dX11_when_30 rfl ?_
    refine jv_iload hC 5 dX11_when_31 rfl ?_
    obtain ⟨g4, hF⟩ := hg_some hF
    obtain ⟨r7, M6, c5, hF⟩ := hb_some hF
    refine jv_callV hC (st := []) [.int v5] (k_Ps_candlesAt c5) mm_Ps_candlesAt mi_Ps_candlesAt ml_X11_246 dX11_when_33 g4 rfl (Nat.le_of_ble_eq_true rfl) rfl rfl (Nat.le_of_ble_eq_true rfl) ?_
    refine jv_nf 36 [.int r7] rfl rfl ?_
    refine jv_istore hC [(6, .int r7), (0, .ref v0), (1, .int v1), (2, .int v2), (3, .int v3), (4, .int v4), (5, .int v5)] dX11_when_36 (by decide) rfl ?_
    refine jv_iload hC 0 dX11_when_38 rfl ?_
    refine jv_iload_n hC 4 dX11_when_40 rfl ?_
    refine jv_icmp_ge hC 53 dX11_when_41 (by decide) (fun h8 => ?_) (fun h8 => ?_)
    · have hF := hi_pos h8 hF
      refine jv_sub [1, 2, 3, 4, 5, 6, 0] (ls' := [(0, .ref v0), (1, .int v1), (2, .int v2), (3, .int v3), (4, .int v4), (5, .int v5), (6, .int r7)]) rfl ?_
      exact jv_pc 53 rfl (s_Ps_when_2 hC hk22 hF)
    · have hF := hi_neg h8 hF
      refine jv_iload hC 0 dX11_when_44 rfl ?_
      refine jv_istore_n hC [(3, .int r7), (6, .int r7), (0, .ref v0), (1, .int v1), (2, .int v2), (4, .int v4), (5, .int v5)] dX11_when_46 (by decide) rfl ?_
      refine jv_sub [0, 1, 2, 3, 6] (ls' := [(3, .int r7), (6, .int r7), (0, .ref v0), (1, .int v1), (5, .int v5)]) rfl ?_
      refine jv_iload hC 4 dX11_when_47 rfl ?_
      refine jv_istore_n hC [(2, .int v5), (3, .int r7), (6, .int r7), (0, .ref v0), (1, .int v1), (5, .int v5)] dX11_when_49 (by decide) rfl ?_
      refine jv_iconst hC dX11_when_50 c32_0 ?_
      refine jv_istore hC [(4, .int (0 : Int32)), (2, .int v5), (3, .int r7), (6, .int r7), (0, .ref v0), (1, .int v1), (5, .int v5)] dX11_when_51 (by decide) rfl ?_
      refine jv_sub [4, 5, 1, 2, 0, 6, 3] (ls' := [(0, .ref v0), (1, .int v1), (2, .int v5), (3, .int r7), (4, .int (0 : Int32)), (5, .int v5), (6, .int r7)]) rfl ?_
      exact jv_pc 53 rfl (s_Ps_when_2 hC hk22 hF)
theorem s_Ps_when_1 {X : hm_X} {n : Nat} {S : hm_S} (hC : hm_C X RX11 cX11_when 7 (some .int) 6 n S) : ∀ (q : Nat) (v0 : Nat) (v1 : Int32) (v2 : Int32) (v3 : Int32) (v4 : Int32) (v5 : Int32) (M : hm_M) (r : Int32) (M' : hm_M), f_Ps_when_1 S  q v0 v1 v2 v3 v4 v5 M = some (r, M') → hm_U X 22 [(0, .ref v0), (1, .int v1), (2, .int v2), (3, .int v3), (4, .int v4), (5, .int v5)] [] M (hm_Q X (some (.int r)) M') := by
  intro q
  induction q with
  | zero => intro v0 v1 v2 v3 v4 v5 M r M' hF; cases hF
  | succ q ih => intro v0 v1 v2 v3 v4 v5 M r M' hF; exact t_Ps_when_1 hC ih hF
set_option maxRecDepth 100000 in
set_option maxHeartbeats 4000000 in
theorem k_Ps_when {n : Nat} {S : hm_S} {v0 : Nat} {v1 : Int32} {M : hm_M} {r : Int32} {M' : hm_M} (hF : f_Ps_when S v0 v1 M = some (r, M')) : hm_KM yX11_when cX11_when 7 (some .int) 6 n S [.ref v0, .int v1] M (some (.int r)) M' := by
  refine hm_enter mm_Ps_when (Nat.le_of_ble_eq_true rfl) (fun X hC => ?_)
  show hm_U X 0 [(0, .ref v0), (1, .int v1)] [] M _
  unfold f_Ps_when at hF
  refine jv_iload_n hC 1 dX11_when_0 rfl ?_
  refine jv_if_lt hC 9 dX11_when_1 (by decide) (fun h1 => ?_) (fun h1 => ?_)
  · have hF := hi_pos h1 hF
    refine jv_iconst hC dX11_when_9 c32_m1 ?_
    obtain ⟨rfl, rfl⟩ := hr_some hF
    exact jv_iret hC dX11_when_10
  · have hF := hi_neg h1 hF
    refine jv_iload_n hC 1 dX11_when_4 rfl ?_
    refine jv_iconst hC dX11_when_5 c32_2 ?_
    refine jv_icmp_le hC 11 dX11_when_6 (by decide) (fun h2 => ?_) (fun h2 => ?_)
    · have hF := hi_pos h2 hF
      refine jv_iconst hC dX11_when_11 c32_0 ?_
      refine jv_istore_n hC [(2, .int (0 : Int32)), (0, .ref v0), (1, .int v1)] dX11_when_12 (by decide) rfl ?_
      refine jv_bipush hC dX11_when_13 c8_9 ?_
      refine jv_istore_n hC [(3, .int (9 : Int32)), (2, .int (0 : Int32)), (0, .ref v0), (1, .int v1)] dX11_when_15 (by decide) rfl ?_
      refine jv_iconst hC dX11_when_16 c32_0 ?_
      refine jv_istore hC [(4, .int (0 : Int32)), (3, .int (9 : Int32)), (2, .int (0 : Int32)), (0, .ref v0), (1, .int v1)] dX11_when_17 (by decide) rfl ?_
      refine jv_iconst hC dX11_when_19 c32_0 ?_
      refine jv_pc 20 rfl ?_
      refine jv_istore hC [(5, .int (0 : Int32)), (4, .int (0 : Int32)), (3, .int (9 : Int32)), (2, .int (0 : Int32)), (0, .ref v0), (1, .int v1)] dX11_when_20 (by decide) rfl ?_
      refine jv_sub [4, 5, 3, 2, 1, 0] (ls' := [(0, .ref v0), (1, .int v1), (2, .int (0 : Int32)), (3, .int (9 : Int32)), (4, .int (0 : Int32)), (5, .int (0 : Int32))]) rfl ?_
      exact jv_pc 22 rfl (s_Ps_when_1 hC hN _ _ _ _ _ _ _ _ _ hF)
    · have hF := hi_neg h2 hF
      refine jv_iconst hC dX11_when_9 c32_m1 ?_
      obtain ⟨rfl, rfl⟩ := hr_some hF
      exact jv_iret hC dX11_when_10
set_option maxRecDepth 100000 in
set_option maxHeartbeats 4000000 in
theorem k_Ps_worth {n : Nat} {S : hm_S} {v0 : Nat} {v1 : Int32} {v2 : Int32} {M : hm_M} {r : Int32} {M' : hm_M} (hF : f_Ps_worth S v0 v1 v2 M = some (r, M')) : hm_KM yX11_worth cX11_worth 3 (some .int) 8 n S [.ref v0, .int v1, .int v2] M (some (.int r)) M' := by
  refine hm_enter mm_Ps_worth (Nat.le_of_ble_eq_true rfl) (fun X hC => ?_)
  show hm_U X 0 [(0, .ref v0), (1, .int v1), (2, .int v2)] [] M _
  unfold f_Ps_worth at hF
  refine jv_aload_n hC 0 dX11_worth_0 rfl ?_
  refine jv_iload_n hC 1 dX11_worth_1 rfl ?_
  obtain ⟨g1, hF⟩ := hg_some hF
  obtain ⟨r4, M3, c2, hF⟩ := hb_some hF
  refine jv_callV hC (st := []) [.int v1] (k_Ps_isGuild c2) mm_Ps_isGuild mi_Ps_isGuild ml_X11_109 dX11_worth_2 g1 rfl (Nat.le_of_ble_eq_true rfl) rfl rfl (Nat.le_of_ble_eq_true rfl) ?_
  refine jv_nf 5 [.int r4] rfl rfl ?_
  refine jv_if_eq hC 16 dX11_worth_5 (by decide) (fun h5 => ?_) (fun h5 => ?_)
  · have hF := hi_pos h5 hF
    refine jv_iconst hC dX11_worth_16 c32_m1 ?_
    obtain ⟨rfl, rfl⟩ := hr_some hF
    exact jv_iret hC dX11_worth_17
  · have hF := hi_neg h5 hF
    refine jv_aload_n hC 0 dX11_worth_8 rfl ?_
    refine jv_iload_n hC 2 dX11_worth_9 rfl ?_
    obtain ⟨r8, M7, c6, hF⟩ := hb_some hF
    refine jv_callV hC (st := []) [.int v2] (k_Ps_isPane c6) mm_Ps_isPane mi_Ps_isPane ml_X11_126 dX11_worth_10 g1 rfl (Nat.le_of_ble_eq_true rfl) rfl rfl (Nat.le_of_ble_eq_true rfl) ?_
    refine jv_nf 13 [.int r8] rfl rfl ?_
    refine jv_if_ne hC 18 dX11_worth_13 (by decide) (fun h9 => ?_) (fun h9 => ?_)
    · have hF := hi_neg h9 hF
      refine jv_aload_n hC 0 dX11_worth_18 rfl ?_
      obtain ⟨g10, hF⟩ := hg_some hF
      refine jv_getR hC fl_X11_40 dX11_worth_19 rfl g1 g10 ?_
      refine jv_aload_n hC 0 dX11_worth_22 rfl ?_
      obtain ⟨g11, hF⟩ := hg_some hF
      refine jv_getR hC fl_X11_19 dX11_worth_23 rfl g1 g11 ?_
      obtain ⟨g12, hF⟩ := hg_some hF
      obtain ⟨g13, hF⟩ := hg_some hF
      refine jv_getR hC fl_X11_98 dX11_worth_26 rfl g12 g13 ?_
      refine jv_aload_n hC 0 dX11_worth_29 rfl ?_
      obtain ⟨r16, M15, c14, hF⟩ := hb_some hF
      refine jv_callV hC (st := [.ref (M7.2.2 (M7.2.2 v0 1) 0), .ref (M7.2.2 v0 4)]) [] (k_Ps_yearNow c14) mm_Ps_yearNow mi_Ps_yearNow ml_X11_182 dX11_worth_30 g1 rfl (Nat.le_of_ble_eq_true rfl) rfl rfl (Nat.le_of_ble_eq_true rfl) ?_
      refine jv_nf 33 [.int r16, .ref (M7.2.2 (M7.2.2 v0 1) 0), .ref (M7.2.2 v0 4)] rfl rfl ?_
      refine jv_iload_n hC 1 dX11_worth_33 rfl ?_
      refine jv_iload_n hC 2 dX11_worth_34 rfl ?_
      obtain ⟨g17, hF⟩ := hg_some hF
      obtain ⟨r20, M19, c18, hF⟩ := hb_some hF
      refine jv_callV hC (st := []) [.ref (M7.2.2 (M7.2.2 v0 1) 0), .int r16, .int v1, .int v2] (k_Rents_worthTo c18) mm_Rents_worthTo mi_Rents_worthTo ml_X11_191 dX11_worth_35 g17 rfl (Nat.le_of_ble_eq_true rfl) rfl rfl (Nat.le_of_ble_eq_true rfl) ?_
      refine jv_nf 38 [.int r20] rfl rfl ?_
      obtain ⟨rfl, rfl⟩ := hr_some hF
      exact jv_iret hC dX11_worth_38
    · have hF := hi_pos h9 hF
      refine jv_iconst hC dX11_worth_16 c32_m1 ?_
      obtain ⟨rfl, rfl⟩ := hr_some hF
      exact jv_iret hC dX11_worth_17
set_option maxRecDepth 100000 in
set_option maxHeartbeats 4000000 in
theorem k_Ps_yields {n : Nat} {S : hm_S} {v0 : Nat} {v1 : Int32} {M : hm_M} {r : Int32} {M' : hm_M} (hF : f_Ps_yields S v0 v1 M = some (r, M')) : hm_KM yX11_yields cX11_yields 2 (some .int) 8 n S [.ref v0, .int v1] M (some (.int r)) M' := by
  refine hm_enter mm_Ps_yields (Nat.le_of_ble_eq_true rfl) (fun X hC => ?_)
  show hm_U X 0 [(0, .ref v0), (1, .int v1)] [] M _
  unfold f_Ps_yields at hF
  refine jv_aload_n hC 0 dX11_yields_0 rfl ?_
  refine jv_iload_n hC 1 dX11_yields_1 rfl ?_
  obtain ⟨g1, hF⟩ := hg_some hF
  obtain ⟨r4, M3, c2, hF⟩ := hb_some hF
  refine jv_callV hC (st := []) [.int v1] (k_Ps_isPane c2) mm_Ps_isPane mi_Ps_isPane ml_X11_126 dX11_yields_2 g1 rfl (Nat.le_of_ble_eq_true rfl) rfl rfl (Nat.le_of_ble_eq_true rfl) ?_
  refine jv_nf 5 [.int r4] rfl rfl ?_
  refine jv_if_ne hC 10 dX11_yields_5 (by decide) (fun h5 => ?_) (fun h5 => ?_)
  · have hF := hi_neg h5 hF
    refine jv_aload_n hC 0 dX11_yields_10 rfl ?_
    obtain ⟨g6, hF⟩ := hg_some hF
    refine jv_getR hC fl_X11_40 dX11_yields_11 rfl g1 g6 ?_
    refine jv_aload_n hC 0 dX11_yields_14 rfl ?_
    obtain ⟨r9, M8, c7, hF⟩ := hb_some hF
    refine jv_callV hC (st := [.ref (M3.2.2 v0 4)]) [] (k_Ps_yearNow c7) mm_Ps_yearNow mi_Ps_yearNow ml_X11_182 dX11_yields_15 g1 rfl (Nat.le_of_ble_eq_true rfl) rfl rfl (Nat.le_of_ble_eq_true rfl) ?_
    refine jv_nf 18 [.int r9, .ref (M3.2.2 v0 4)] rfl rfl ?_
    refine jv_iload_n hC 1 dX11_yields_18 rfl ?_
    obtain ⟨g10, hF⟩ := hg_some hF
    obtain ⟨r13, M12, c11, hF⟩ := hb_some hF
    refine jv_callV hC (st := []) [.int r9, .int v1] (k_Rents_given c11) mm_Rents_given mi_Rents_given ml_X11_185 dX11_yields_19 g10 rfl (Nat.le_of_ble_eq_true rfl) rfl rfl (Nat.le_of_ble_eq_true rfl) ?_
    refine jv_nf 22 [.int r13] rfl rfl ?_
    obtain ⟨rfl, rfl⟩ := hr_some hF
    exact jv_iret hC dX11_yields_22
  · have hF := hi_pos h5 hF
    refine jv_iconst hC dX11_yields_8 c32_m1 ?_
    obtain ⟨rfl, rfl⟩ := hr_some hF
    exact jv_iret hC dX11_yields_9
