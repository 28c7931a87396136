/-! by program: the machine runs them -/
theorem s_Rents_givenBy_1 {X : hm_X} {n : Nat} {S : hm_S} (hC : hm_C X RX6 cX6_givenBy 5 (some .int) 2 n S) : ∀ (q : Nat) (v0 : Nat) (v1 : Int32) (v2 : Int32) (v3 : Int32) (v4 : Int32) (M : hm_M) (r : Int32) (M' : hm_M), f_Rents_givenBy_1 S  q v0 v1 v2 v3 v4 M = some (r, M') → hm_U X 5 [(0, .ref v0), (1, .int v1), (2, .int v2), (3, .int v3), (4, .int v4)] [] M (hm_Q X (some (.int r)) M') := by
  intro q
  induction q with
  | zero => intro v0 v1 v2 v3 v4 M r M' hF; cases hF
  | succ q ih => intro v0 v1 v2 v3 v4 M r M' hF; exact t_Rents_givenBy_1 hC ih hF
set_option maxRecDepth 100000 in
set_option maxHeartbeats 4000000 in
theorem k_Rents_givenBy {n : Nat} {S : hm_S} {v0 : Nat} {v1 : Int32} {v2 : Int32} {M : hm_M} {r : Int32} {M' : hm_M} (hF : f_Rents_givenBy S v0 v1 v2 M = some (r, M')) : hm_KM yX6_givenBy cX6_givenBy 5 (some .int) 2 n S [.ref v0, .int v1, .int v2] M (some (.int r)) M' := by
  refine hm_enter mm_Rents_givenBy (Nat.le_of_ble_eq_true rfl) (fun X hC => ?_)
  show hm_U X 0 [(0, .ref v0), (1, .int v1), (2, .int v2)] [] M _
  unfold f_Rents_givenBy at hF
  refine jv_iconst hC dX6_givenBy_0 c32_0 ?_
  refine jv_istore_n hC [(3, .int (0 : Int32)), (0, .ref v0), (1, .int v1), (2, .int v2)] dX6_givenBy_1 (by decide) rfl ?_
  refine jv_iconst hC dX6_givenBy_2 c32_0 ?_
  refine jv_istore hC [(4, .int (0 : Int32)), (3, .int (0 : Int32)), (0, .ref v0), (1, .int v1), (2, .int v2)] dX6_givenBy_3 (by decide) rfl ?_
  refine jv_sub [2, 3, 4, 1, 0] (ls' := [(0, .ref v0), (1, .int v1), (2, .int v2), (3, .int (0 : Int32)), (4, .int (0 : Int32))]) rfl ?_
  exact jv_pc 5 rfl (s_Rents_givenBy_1 hC hN _ _ _ _ _ _ _ _ hF)
set_option maxRecDepth 100000 in
set_option maxHeartbeats 4000000 in
theorem t_Ps_clouded_3 {X : hm_X} {n : Nat} {S : hm_S} (hC : hm_C X RX11 cX11_clouded 6 (some .int) 7 n S) {k83 : Nat → Int32 → Int32 → Int32 → hm_M → Option (Int32 × hm_M)} (hk83 : ∀ (v0 : Nat) (v3 : Int32) (v4 : Int32) (v5 : Int32)  (M : hm_M) (r : Int32) (M' : hm_M), k83 v0 v3 v4 v5 M = some (r, M') → hm_U X 83 [(0, .ref v0), (3, .int v3), (4, .int v4), (5, .int v5)] [] M (hm_Q X (some (.int r)) M')) {v0 : Nat} {v3 : Int32} {v4 : Int32} {v5 : Int32} {M : hm_M} {r : Int32} {M' : hm_M} (hF : b_Ps_clouded_3 S k83 v0 v3 v4 v5 M = some (r, M')) : hm_U X 83 [(0, .ref v0), (3, .int v3), (4, .int v4), (5, .int v5)] [] M (hm_Q X (some (.int r)) M') := by
  unfold b_Ps_clouded_3 at hF
  refine jv_iload hC 3 dX11_clouded_83 rfl ?_
  refine jv_aload_n hC 0 dX11_clouded_85 rfl ?_
  obtain ⟨g1, hF⟩ := hg_some hF
  obtain ⟨g2, hF⟩ := hg_some hF
  refine jv_getR hC fl_X11_19 dX11_clouded_86 rfl g1 g2 ?_
  obtain ⟨g3, hF⟩ := hg_some hF
  obtain ⟨g4, hF⟩ := hg_some hF
  refine jv_getR hC fl_X11_98 dX11_clouded_89 rfl g3 g4 ?_
  obtain ⟨g5, hF⟩ := hg_some hF
  refine jv_getI hC fl_X11_281 dX11_clouded_92 rfl g5 ?_
  refine jv_icmp_ge hC 140 dX11_clouded_95 (by decide) (fun h6 => ?_) (fun h6 => ?_)
  · have hF := hi_pos h6 hF
    refine jv_iload hC 2 dX11_clouded_140 rfl ?_
    obtain ⟨rfl, rfl⟩ := hr_some hF
    exact jv_iret hC dX11_clouded_142
  · have hF := hi_neg h6 hF
    refine jv_aload_n hC 0 dX11_clouded_98 rfl ?_
    obtain ⟨g7, hF⟩ := hg_some hF
    refine jv_getR hC fl_X11_40 dX11_clouded_99 rfl g1 g7 ?_
    refine jv_iload_n hC 1 dX11_clouded_102 rfl ?_
    refine jv_aload_n hC 0 dX11_clouded_103 rfl ?_
    obtain ⟨g8, hF⟩ := hg_some hF
    refine jv_getR hC fl_X11_26 dX11_clouded_104 rfl g1 g8 ?_
    refine jv_iload hC 3 dX11_clouded_107 rfl ?_
    obtain ⟨g9, hF⟩ := hg_some hF
    obtain ⟨r12, M11, c10, hF⟩ := hb_some hF
    refine jv_callV hC (st := [.int v3, .ref (M.2.2 v0 4)]) [.int v5] (k_Hold_panesOf c10) mm_Hold_panesOf mi_Hold_panesOf ml_X11_122 dX11_clouded_109 g9 rfl (Nat.le_of_ble_eq_true rfl) rfl rfl (Nat.le_of_ble_eq_true rfl) ?_
    refine jv_nf 112 [.int r12, .int v3, .ref (M.2.2 v0 4)] rfl rfl ?_
    obtain ⟨g13, hF⟩ := hg_some hF
    obtain ⟨r16, M15, c14, hF⟩ := hb_some hF
    refine jv_callV hC (st := []) [.int v3, .int r12] (k_Rents_givenBy c14) mm_Rents_givenBy mi_Rents_givenBy ml_X11_188 dX11_clouded_112 g13 rfl (Nat.le_of_ble_eq_true rfl) rfl rfl (Nat.le_of_ble_eq_true rfl) ?_
    refine jv_nf 115 [.int r16] rfl rfl ?_
    refine jv_aload_n hC 0 dX11_clouded_115 rfl ?_
    obtain ⟨g17, hF⟩ := hg_some hF
    refine jv_getR hC fl_X11_19 dX11_clouded_116 rfl g1 g17 ?_
    obtain ⟨g18, hF⟩ := hg_some hF
    obtain ⟨g19, hF⟩ := hg_some hF
    refine jv_getR hC fl_X11_98 dX11_clouded_119 rfl g18 g19 ?_
    obtain ⟨g20, hF⟩ := hg_some hF
    obtain ⟨g21, hF⟩ := hg_some hF
    refine jv_getR hC fl_X11_119 dX11_clouded_122 rfl g20 g21 ?_
    refine jv_iload hC 3 dX11_clouded_125 rfl ?_
    obtain ⟨g22, hF⟩ := hg_some hF
    obtain ⟨n23, sn23, in23⟩ := hm_ib_ok g22
    refine jv_iaload hC dX11_clouded_127 sn23 in23 ?_
    refine jv_icmp_ge hC 134 dX11_clouded_128 (by decide) (fun h24 => ?_) (fun h24 => ?_)
    · have hF := hi_pos h24 hF
      refine jv_iinc hC 3 [(5, .int (v5 + (1 : Int32))), (0, .ref v0), (3, .int v3), (4, .int v4)] dX11_clouded_134 rfl c32_1 (by decide) rfl ?_
      refine jv_goto hC 83 dX11_clouded_137 (by decide) ?_
      refine jv_sub [1, 2, 3, 0] (ls' := [(0, .ref v0), (3, .int v3), (4, .int v4), (5, .int (v5 + (1 : Int32)))]) rfl ?_
      exact jv_pc 83 rfl (hk83 _ _ _ _ _ _ _ hF)
    · have hF := hi_neg h24 hF
      refine jv_iinc hC 2 [(4, .int (v4 + (1 : Int32))), (0, .ref v0), (3, .int v3), (5, .int v5)] dX11_clouded_131 rfl c32_1 (by decide) rfl ?_
      refine jv_iinc hC 3 [(5, .int (v5 + (1 : Int32))), (4, .int (v4 + (1 : Int32))), (0, .ref v0), (3, .int v3)] dX11_clouded_134 rfl c32_1 (by decide) rfl ?_
      refine jv_goto hC 83 dX11_clouded_137 (by decide) ?_
      refine jv_sub [2, 3, 1, 0] (ls' := [(0, .ref v0), (3, .int v3), (4, .int (v4 + (1 : Int32))), (5, .int (v5 + (1 : Int32)))]) rfl ?_
      exact jv_pc 83 rfl (hk83 _ _ _ _ _ _ _ hF)
theorem s_Ps_clouded_3 {X : hm_X} {n : Nat} {S : hm_S} (hC : hm_C X RX11 cX11_clouded 6 (some .int) 7 n S) : ∀ (q : Nat) (v0 : Nat) (v3 : Int32) (v4 : Int32) (v5 : Int32) (M : hm_M) (r : Int32) (M' : hm_M), f_Ps_clouded_3 S  q v0 v3 v4 v5 M = some (r, M') → hm_U X 83 [(0, .ref v0), (3, .int v3), (4, .int v4), (5, .int v5)] [] M (hm_Q X (some (.int r)) M') := by
  intro q
  induction q with
  | zero => intro v0 v3 v4 v5 M r M' hF; cases hF
  | succ q ih => intro v0 v3 v4 v5 M r M' hF; exact t_Ps_clouded_3 hC ih hF
set_option maxRecDepth 100000 in
set_option maxHeartbeats 4000000 in
theorem s_Ps_clouded_2 {X : hm_X} {n : Nat} {S : hm_S} (hC : hm_C X RX11 cX11_clouded 6 (some .int) 7 n S) {v0 : Nat} {v1 : Int32} {v2 : Int32} {M : hm_M} {r : Int32} {M' : hm_M} (hF : b_Ps_clouded_2 S v0 v1 v2 M = some (r, M')) : hm_U X 35 [(0, .ref v0), (1, .int v1), (2, .int v2)] [] M (hm_Q X (some (.int r)) M') := by
  unfold b_Ps_clouded_2 at hF
  refine jv_aload_n hC 0 dX11_clouded_35 rfl ?_
  obtain ⟨g1, hF⟩ := hg_some hF
  obtain ⟨g2, hF⟩ := hg_some hF
  refine jv_getR hC fl_X11_40 dX11_clouded_36 rfl g1 g2 ?_
  refine jv_aload_n hC 0 dX11_clouded_39 rfl ?_
  obtain ⟨g3, hF⟩ := hg_some hF
  refine jv_getR hC fl_X11_19 dX11_clouded_40 rfl g1 g3 ?_
  refine jv_aload_n hC 0 dX11_clouded_43 rfl ?_
  obtain ⟨g4, hF⟩ := hg_some hF
  refine jv_getR hC fl_X11_26 dX11_clouded_44 rfl g1 g4 ?_
  obtain ⟨g5, hF⟩ := hg_some hF
  obtain ⟨r8, M7, c6, hF⟩ := hb_some hF
  refine jv_callV hC (st := [.ref (M.2.2 v0 1), .ref (M.2.2 v0 4)]) [] (k_Hold_lit c6) mm_Hold_lit mi_Hold_lit ml_X11_165 dX11_clouded_47 g5 rfl (Nat.le_of_ble_eq_true rfl) rfl rfl (Nat.le_of_ble_eq_true rfl) ?_
  refine jv_nf 50 [.int r8, .ref (M.2.2 v0 1), .ref (M.2.2 v0 4)] rfl rfl ?_
  refine jv_iload_n hC 1 dX11_clouded_50 rfl ?_
  obtain ⟨g9, hF⟩ := hg_some hF
  obtain ⟨r12, M11, c10, hF⟩ := hb_some hF
  refine jv_callV hC (st := []) [.ref (M.2.2 v0 1), .int r8, .int v1] (k_Rents_cloudedYear c10) mm_Rents_cloudedYear mi_Rents_cloudedYear ml_X11_277 dX11_clouded_51 g9 rfl (Nat.le_of_ble_eq_true rfl) rfl rfl (Nat.le_of_ble_eq_true rfl) ?_
  refine jv_nf 54 [.int r12] rfl rfl ?_
  refine jv_istore_n hC [(3, .int r12), (0, .ref v0), (1, .int v1), (2, .int v2)] dX11_clouded_54 (by decide) rfl ?_
  refine jv_iload_n hC 3 dX11_clouded_55 rfl ?_
  refine jv_iconst hC dX11_clouded_56 c32_m1 ?_
  refine jv_icmp_eq hC 77 dX11_clouded_57 (by decide) (fun h13 => ?_) (fun h13 => ?_)
  · have hF := hi_pos h13 hF
    refine jv_iconst hC dX11_clouded_77 c32_0 ?_
    refine jv_istore hC [(4, .int (0 : Int32)), (3, .int r12), (0, .ref v0), (1, .int v1), (2, .int v2)] dX11_clouded_78 (by decide) rfl ?_
    refine jv_iconst hC dX11_clouded_80 c32_0 ?_
    refine jv_istore hC [(5, .int (0 : Int32)), (4, .int (0 : Int32)), (3, .int r12), (0, .ref v0), (1, .int v1), (2, .int v2)] dX11_clouded_81 (by decide) rfl ?_
    refine jv_sub [3, 2, 1, 0] (ls' := [(0, .ref v0), (3, .int r12), (4, .int (0 : Int32)), (5, .int (0 : Int32))]) rfl ?_
    exact jv_pc 83 rfl (s_Ps_clouded_3 hC hN _ _ _ _ _ _ _ hF)
  · have hF := hi_neg h13 hF
    refine jv_aload_n hC 1 dX11_clouded_60 rfl ?_
    obtain ⟨g14, hF⟩ := hg_some hF
    refine jv_getR hC fl_X11_40 dX11_clouded_61 rfl g1 g14 ?_
    refine jv_iload_n hC 0 dX11_clouded_64 rfl ?_
    refine jv_aload_n hC 1 dX11_clouded_65 rfl ?_
    obtain ⟨g15, hF⟩ := hg_some hF
    refine jv_getR hC fl_X11_26 dX11_clouded_66 rfl g1 g15 ?_
    refine jv_iload_n hC 3 dX11_clouded_69 rfl ?_
    obtain ⟨g16, hF⟩ := hg_some hF
    obtain ⟨r19, M18, c17, hF⟩ := hb_some hF
    refine jv_callV hC (st := [.int r12, .ref (M11.2.2 v0 4)]) [.int v2] (k_Hold_panesOf c17) mm_Hold_panesOf mi_Hold_panesOf ml_X11_122 dX11_clouded_70 g16 rfl (Nat.le_of_ble_eq_true rfl) rfl rfl (Nat.le_of_ble_eq_true rfl) ?_
    refine jv_nf 73 [.int r19, .int r12, .ref (M11.2.2 v0 4)] rfl rfl ?_
    obtain ⟨g20, hF⟩ := hg_some hF
    obtain ⟨r23, M22, c21, hF⟩ := hb_some hF
    refine jv_callV hC (st := []) [.int r12, .int r19] (k_Rents_givenBy c21) mm_Rents_givenBy mi_Rents_givenBy ml_X11_188 dX11_clouded_73 g20 rfl (Nat.le_of_ble_eq_true rfl) rfl rfl (Nat.le_of_ble_eq_true rfl) ?_
    refine jv_nf 76 [.int r23] rfl rfl ?_
    obtain ⟨rfl, rfl⟩ := hr_some hF
    exact jv_iret hC dX11_clouded_76
set_option maxRecDepth 100000 in
set_option maxHeartbeats 4000000 in
theorem s_Ps_clouded_1 {X : hm_X} {n : Nat} {S : hm_S} (hC : hm_C X RX11 cX11_clouded 6 (some .int) 7 n S)  {M : hm_M} {r : Int32} {M' : hm_M} (hF : b_Ps_clouded_1 S M = some (r, M')) : hm_U X 24 [] [] M (hm_Q X (some (.int r)) M') := by
  unfold b_Ps_clouded_1 at hF
  cases hF
set_option maxRecDepth 100000 in
set_option maxHeartbeats 4000000 in
theorem u_Ps_clouded {X : hm_X} {n : Nat} {S : hm_S} (hC : hm_C X RX11 cX11_clouded 6 (some .int) 7 n S) {v0 : Nat} {v1 : Int32} {v2 : Int32} {M : hm_M} {r : Int32} {M' : hm_M} (hF : f_Ps_clouded S v0 v1 v2 M = some (r, M')) : hm_U X 0 [(0, .ref v0), (1, .int v1), (2, .int v2)] [] M (hm_Q X (some (.int r)) M') := by
  unfold f_Ps_clouded at hF
  refine jv_iload_n hC 1 dX11_clouded_0 rfl ?_
  refine jv_if_lt hC 24 dX11_clouded_1 (by decide) (fun h1 => ?_) (fun h1 => ?_)
  · have hF := hi_pos h1 hF
    refine jv_sub [] (ls' := []) rfl ?_
    exact jv_pc 24 rfl (s_Ps_clouded_1 hC hF)
  · have hF := hi_neg h1 hF
    refine jv_iload_n hC 1 dX11_clouded_4 rfl ?_
    refine jv_sipush hC dX11_clouded_5 c16_9999 ?_
    refine jv_icmp_gt hC 24 dX11_clouded_8 (by decide) (fun h2 => ?_) (fun h2 => ?_)
    · have hF := hi_pos h2 hF
      refine jv_sub [] (ls' := []) rfl ?_
      exact jv_pc 24 rfl (s_Ps_clouded_1 hC hF)
    · have hF := hi_neg h2 hF
      refine jv_iload_n hC 2 dX11_clouded_11 rfl ?_
      refine jv_iconst hC dX11_clouded_12 c32_m1 ?_
      refine jv_icmp_eq hC 35 dX11_clouded_13 (by decide) (fun h3 => ?_) (fun h3 => ?_)
      · have hF := hi_pos h3 hF
        exact jv_pc 35 rfl (s_Ps_clouded_2 hC hF)
      · have hF := hi_neg h3 hF
        refine jv_aload_n hC 0 dX11_clouded_16 rfl ?_
        refine jv_iload_n hC 2 dX11_clouded_17 rfl ?_
        obtain ⟨g4, hF⟩ := hg_some hF
        obtain ⟨r7, M6, c5, hF⟩ := hb_some hF
        refine jv_callV hC (st := []) [.int v2] (k_Ps_isGuild c5) mm_Ps_isGuild mi_Ps_isGuild ml_X11_109 dX11_clouded_18 g4 rfl (Nat.le_of_ble_eq_true rfl) rfl rfl (Nat.le_of_ble_eq_true rfl) ?_
        refine jv_nf 21 [.int r7] rfl rfl ?_
        refine jv_if_ne hC 35 dX11_clouded_21 (by decide) (fun h8 => ?_) (fun h8 => ?_)
        · have hF := hi_neg h8 hF
          exact jv_pc 35 rfl (s_Ps_clouded_2 hC hF)
        · have hF := hi_pos h8 hF
          refine jv_sub [] (ls' := []) rfl ?_
          exact jv_pc 24 rfl (s_Ps_clouded_1 hC hF)
set_option maxRecDepth 100000 in
set_option maxHeartbeats 4000000 in
theorem k_Ps_count {n : Nat} {S : hm_S} {v0 : Nat} {v1 : Int32} {M : hm_M} {r : Int32} {M' : hm_M} (hF : f_Ps_count S v0 v1 M = some (r, M')) : hm_KM yX11_count cX11_count 2 (some .int) 2 n S [.ref v0, .int v1] M (some (.int r)) M' := by
  refine hm_enter mm_Ps_count (Nat.le_of_ble_eq_true rfl) (fun X hC => ?_)
  show hm_U X 0 [(0, .ref v0), (1, .int v1)] [] M _
  unfold f_Ps_count at hF
  refine jv_iload_n hC 1 dX11_count_0 rfl ?_
  by_cases h1 : v1 = (0 : Int32)
  · have hF := hi_pos h1 hF
    refine jv_tableIn hC 52 dX11_count_1 (by rw [h1]; decide) (by rw [h1]; decide) (by rw [h1]; rfl) (by decide) ?_
    refine jv_aload_n hC 0 dX11_count_52 rfl ?_
    obtain ⟨g2, hF⟩ := hg_some hF
    obtain ⟨g3, hF⟩ := hg_some hF
    refine jv_getR hC fl_X11_19 dX11_count_53 rfl g2 g3 ?_
    obtain ⟨g4, hF⟩ := hg_some hF
    obtain ⟨g5, hF⟩ := hg_some hF
    refine jv_getR hC fl_X11_98 dX11_count_56 rfl g4 g5 ?_
    obtain ⟨g6, hF⟩ := hg_some hF
    refine jv_getI hC fl_X11_288 dX11_count_59 rfl g6 ?_
    obtain ⟨rfl, rfl⟩ := hr_some hF
    exact jv_iret hC dX11_count_62
  have hF := hi_neg h1 hF
  by_cases h7 : v1 = (1 : Int32)
  · have hF := hi_pos h7 hF
    refine jv_tableIn hC 63 dX11_count_1 (by rw [h7]; decide) (by rw [h7]; decide) (by rw [h7]; rfl) (by decide) ?_
    refine jv_aload_n hC 0 dX11_count_63 rfl ?_
    obtain ⟨g8, hF⟩ := hg_some hF
    obtain ⟨g9, hF⟩ := hg_some hF
    refine jv_getR hC fl_X11_19 dX11_count_64 rfl g8 g9 ?_
    obtain ⟨g10, hF⟩ := hg_some hF
    obtain ⟨g11, hF⟩ := hg_some hF
    refine jv_getR hC fl_X11_98 dX11_count_67 rfl g10 g11 ?_
    obtain ⟨g12, hF⟩ := hg_some hF
    refine jv_getI hC fl_X11_291 dX11_count_70 rfl g12 ?_
    obtain ⟨rfl, rfl⟩ := hr_some hF
    exact jv_iret hC dX11_count_73
  have hF := hi_neg h7 hF
  by_cases h13 : v1 = (2 : Int32)
  · have hF := hi_pos h13 hF
    refine jv_tableIn hC 74 dX11_count_1 (by rw [h13]; decide) (by rw [h13]; decide) (by rw [h13]; rfl) (by decide) ?_
    refine jv_aload_n hC 0 dX11_count_74 rfl ?_
    obtain ⟨g14, hF⟩ := hg_some hF
    obtain ⟨g15, hF⟩ := hg_some hF
    refine jv_getR hC fl_X11_19 dX11_count_75 rfl g14 g15 ?_
    obtain ⟨g16, hF⟩ := hg_some hF
    obtain ⟨g17, hF⟩ := hg_some hF
    refine jv_getR hC fl_X11_98 dX11_count_78 rfl g16 g17 ?_
    obtain ⟨g18, hF⟩ := hg_some hF
    refine jv_getI hC fl_X11_281 dX11_count_81 rfl g18 ?_
    obtain ⟨rfl, rfl⟩ := hr_some hF
    exact jv_iret hC dX11_count_84
  have hF := hi_neg h13 hF
  by_cases h19 : v1 = (3 : Int32)
  · have hF := hi_pos h19 hF
    refine jv_tableIn hC 85 dX11_count_1 (by rw [h19]; decide) (by rw [h19]; decide) (by rw [h19]; rfl) (by decide) ?_
    refine jv_aload_n hC 0 dX11_count_85 rfl ?_
    obtain ⟨g20, hF⟩ := hg_some hF
    obtain ⟨g21, hF⟩ := hg_some hF
    refine jv_getR hC fl_X11_19 dX11_count_86 rfl g20 g21 ?_
    obtain ⟨g22, hF⟩ := hg_some hF
    obtain ⟨g23, hF⟩ := hg_some hF
    refine jv_getR hC fl_X11_98 dX11_count_89 rfl g22 g23 ?_
    obtain ⟨g24, hF⟩ := hg_some hF
    refine jv_getI hC fl_X11_294 dX11_count_92 rfl g24 ?_
    obtain ⟨rfl, rfl⟩ := hr_some hF
    exact jv_iret hC dX11_count_95
  have hF := hi_neg h19 hF
  by_cases h25 : v1 = (4 : Int32)
  · have hF := hi_pos h25 hF
    refine jv_tableIn hC 96 dX11_count_1 (by rw [h25]; decide) (by rw [h25]; decide) (by rw [h25]; rfl) (by decide) ?_
    refine jv_aload_n hC 0 dX11_count_96 rfl ?_
    obtain ⟨g26, hF⟩ := hg_some hF
    obtain ⟨g27, hF⟩ := hg_some hF
    refine jv_getR hC fl_X11_26 dX11_count_97 rfl g26 g27 ?_
    obtain ⟨g28, hF⟩ := hg_some hF
    refine jv_getI hC fl_X11_297 dX11_count_100 rfl g28 ?_
    obtain ⟨r31, M30, c29, hF⟩ := hb_some hF
    refine jv_callS hC (st := []) [.int (M.1 (M.2.2 v0 2) 1)] (k_J6_bitCount_0f7a4 c29) mm_J6_bitCount_0f7a4 ms_J6_bitCount_0f7a4 ml_X11_177 dX11_count_103 (Nat.le_of_ble_eq_true rfl) rfl rfl (Nat.le_of_ble_eq_true rfl) ?_
    refine jv_nf 106 [.int r31] rfl rfl ?_
    obtain ⟨rfl, rfl⟩ := hr_some hF
    exact jv_iret hC dX11_count_106
  have hF := hi_neg h25 hF
  by_cases h32 : v1 = (5 : Int32)
  · have hF := hi_pos h32 hF
    refine jv_tableIn hC 107 dX11_count_1 (by rw [h32]; decide) (by rw [h32]; decide) (by rw [h32]; rfl) (by decide) ?_
    refine jv_aload_n hC 0 dX11_count_107 rfl ?_
    obtain ⟨g33, hF⟩ := hg_some hF
    obtain ⟨g34, hF⟩ := hg_some hF
    refine jv_getR hC fl_X11_33 dX11_count_108 rfl g33 g34 ?_
    obtain ⟨g35, hF⟩ := hg_some hF
    refine jv_getI hC fl_X11_300 dX11_count_111 rfl g35 ?_
    obtain ⟨rfl, rfl⟩ := hr_some hF
    exact jv_iret hC dX11_count_114
  have hF := hi_neg h32 hF
  by_cases h36 : v1 = (6 : Int32)
  · have hF := hi_pos h36 hF
    refine jv_tableIn hC 115 dX11_count_1 (by rw [h36]; decide) (by rw [h36]; decide) (by rw [h36]; rfl) (by decide) ?_
    refine jv_aload_n hC 0 dX11_count_115 rfl ?_
    obtain ⟨g37, hF⟩ := hg_some hF
    obtain ⟨g38, hF⟩ := hg_some hF
    refine jv_getR hC fl_X11_26 dX11_count_116 rfl g37 g38 ?_
    obtain ⟨g39, hF⟩ := hg_some hF
    refine jv_getI hC fl_X11_249 dX11_count_119 rfl g39 ?_
    obtain ⟨rfl, rfl⟩ := hr_some hF
    exact jv_iret hC dX11_count_122
  have hF := hi_neg h36 hF
  by_cases h40 : v1 = (7 : Int32)
  · have hF := hi_pos h40 hF
    refine jv_tableIn hC 123 dX11_count_1 (by rw [h40]; decide) (by rw [h40]; decide) (by rw [h40]; rfl) (by decide) ?_
    refine jv_aload_n hC 0 dX11_count_123 rfl ?_
    obtain ⟨g41, hF⟩ := hg_some hF
    obtain ⟨g42, hF⟩ := hg_some hF
    refine jv_getR hC fl_X11_19 dX11_count_124 rfl g41 g42 ?_
    obtain ⟨g43, hF⟩ := hg_some hF
    obtain ⟨g44, hF⟩ := hg_some hF
    refine jv_getR hC fl_X11_98 dX11_count_127 rfl g43 g44 ?_
    obtain ⟨g45, hF⟩ := hg_some hF
    refine jv_getI hC fl_X11_301 dX11_count_130 rfl g45 ?_
    obtain ⟨rfl, rfl⟩ := hr_some hF
    exact jv_iret hC dX11_count_133
  have hF := hi_neg h40 hF
  by_cases h46 : v1 = (8 : Int32)
  · have hF := hi_pos h46 hF
    refine jv_tableIn hC 134 dX11_count_1 (by rw [h46]; decide) (by rw [h46]; decide) (by rw [h46]; rfl) (by decide) ?_
    refine jv_aload_n hC 0 dX11_count_134 rfl ?_
    obtain ⟨g47, hF⟩ := hg_some hF
    obtain ⟨g48, hF⟩ := hg_some hF
    refine jv_getR hC fl_X11_12 dX11_count_135 rfl g47 g48 ?_
    obtain ⟨g49, hF⟩ := hg_some hF
    obtain ⟨g50, hF⟩ := hg_some hF
    refine jv_getR hC fl_X11_73 dX11_count_138 rfl g49 g50 ?_
    obtain ⟨g51, hF⟩ := hg_some hF
    refine jv_getI hC fl_X11_83 dX11_count_141 rfl g51 ?_
    obtain ⟨rfl, rfl⟩ := hr_some hF
    exact jv_iret hC dX11_count_144
  have hF := hi_neg h46 hF
  refine jv_tableOut hC 145 dX11_count_1 (by have := hm_out (c := 0) (by decide) h1; have := hm_out (c := 1) (by decide) h7; have := hm_out (c := 2) (by decide) h13; have := hm_out (c := 3) (by decide) h19; have := hm_out (c := 4) (by decide) h25; have := hm_out (c := 5) (by decide) h32; have := hm_out (c := 6) (by decide) h36; have := hm_out (c := 7) (by decide) h40; have := hm_out (c := 8) (by decide) h46; omega) (by decide) ?_
  refine jv_iconst hC dX11_count_145 c32_m1 ?_
  obtain ⟨rfl, rfl⟩ := hr_some hF
  exact jv_iret hC dX11_count_146
set_option maxRecDepth 100000 in
set_option maxHeartbeats 4000000 in
theorem k_Hold_swap {n : Nat} {S : hm_S} {v0 : Nat} {v1 : Int32} {v2 : Int32} {M : hm_M} {M' : hm_M} (hF : f_Hold_swap S v0 v1 v2 M = some M') : hm_KM yX2_swap cX2_swap 4 none 1 n S [.ref v0, .int v1, .int v2] M none M' := by
  refine hm_enter mm_Hold_swap (Nat.le_of_ble_eq_true rfl) (fun X hC => ?_)
  show hm_U X 0 [(0, .ref v0), (1, .int v1), (2, .int v2)] [] M _
  unfold f_Hold_swap at hF
  refine jv_aload_n hC 0 dX2_swap_0 rfl ?_
  obtain ⟨g1, hF⟩ := hg_some hF
  obtain ⟨g2, hF⟩ := hg_some hF
  refine jv_getR hC fl_X2_9 dX2_swap_1 rfl g1 g2 ?_
  refine jv_iload_n hC 1 dX2_swap_4 rfl ?_
  obtain ⟨g3, hF⟩ := hg_some hF
  obtain ⟨n4, sn4, in4⟩ := hm_ib_ok g3
  refine jv_iaload hC dX2_swap_5 sn4 in4 ?_
  obtain ⟨x5, e6, hF⟩ := hl_some hF
  refine jv_topI e6 ?_
  refine jv_istore_n hC [(3, .int x5), (0, .ref v0), (1, .int v1), (2, .int v2)] dX2_swap_6 (by decide) rfl ?_
  refine jv_aload_n hC 1 dX2_swap_7 rfl ?_
  refine jv_getR hC fl_X2_9 dX2_swap_8 rfl g1 g2 ?_
  refine jv_pc 11 rfl ?_
  refine jv_iload_n hC 2 dX2_swap_11 rfl ?_
  refine jv_aload_n hC 1 dX2_swap_12 rfl ?_
  refine jv_getR hC fl_X2_9 dX2_swap_13 rfl g1 g2 ?_
  refine jv_iload_n hC 3 dX2_swap_16 rfl ?_
  obtain ⟨g7, hF⟩ := hg_some hF
  obtain ⟨n8, sn8, in8⟩ := hm_ib_ok g7
  refine jv_iaload hC dX2_swap_17 sn8 in8 ?_
  refine jv_iastore hC dX2_swap_18 sn4 in4 ?_
  obtain ⟨M9, e10, hF⟩ := hl_some hF
  refine jv_mem e10 ?_
  refine jv_aload_n hC 1 dX2_swap_19 rfl ?_
  obtain ⟨g11, hF⟩ := hg_some hF
  refine jv_getR hC fl_X2_9 dX2_swap_20 rfl g1 g11 ?_
  refine jv_pc 23 rfl ?_
  refine jv_iload_n hC 3 dX2_swap_23 rfl ?_
  refine jv_iload_n hC 0 dX2_swap_24 rfl ?_
  obtain ⟨g12, hF⟩ := hg_some hF
  obtain ⟨n13, sn13, in13⟩ := hm_ib_ok g12
  refine jv_iastore hC dX2_swap_25 sn13 in13 ?_
  obtain ⟨M14, e15, hF⟩ := hl_some hF
  refine jv_mem e15 ?_
  obtain rfl := hr_somev hF
  exact jv_vret hC dX2_swap_26
set_option maxRecDepth 100000 in
set_option maxHeartbeats 4000000 in
theorem k_Ps_exchange {n : Nat} {S : hm_S} {v0 : Nat} {v1 : Int32} {v2 : Int32} {M : hm_M} {r : Int32} {M' : hm_M} (hF : f_Ps_exchange S v0 v1 v2 M = some (r, M')) : hm_KM yX11_exchange cX11_exchange 3 (some .boolean) 3 n S [.ref v0, .int v1, .int v2] M (some (.int r)) M' := by
  refine hm_enter mm_Ps_exchange (Nat.le_of_ble_eq_true rfl) (fun X hC => ?_)
  show hm_U X 0 [(0, .ref v0), (1, .int v1), (2, .int v2)] [] M _
  unfold f_Ps_exchange at hF
  refine jv_aload_n hC 0 dX11_exchange_0 rfl ?_
  refine jv_iload_n hC 1 dX11_exchange_1 rfl ?_
  refine jv_iload_n hC 2 dX11_exchange_2 rfl ?_
  obtain ⟨g1, hF⟩ := hg_some hF
  obtain ⟨r4, M3, c2, hF⟩ := hb_some hF
  refine jv_callV hC (st := []) [.int v1, .int v2] (k_Ps_canExchange c2) mm_Ps_canExchange mi_Ps_canExchange ml_X11_195 dX11_exchange_3 g1 rfl (Nat.le_of_ble_eq_true rfl) rfl rfl (Nat.le_of_ble_eq_true rfl) ?_
  refine jv_nf 6 [.int r4] rfl rfl ?_
  refine jv_if_ne hC 11 dX11_exchange_6 (by decide) (fun h5 => ?_) (fun h5 => ?_)
  · have hF := hi_neg h5 hF
    refine jv_aload_n hC 0 dX11_exchange_11 rfl ?_
    obtain ⟨g6, hF⟩ := hg_some hF
    refine jv_getR hC fl_X11_26 dX11_exchange_12 rfl g1 g6 ?_
    refine jv_iload_n hC 1 dX11_exchange_15 rfl ?_
    refine jv_iload_n hC 2 dX11_exchange_16 rfl ?_
    obtain ⟨g7, hF⟩ := hg_some hF
    obtain ⟨M9, c8, hF⟩ := hv_some hF
    refine jv_callV hC (st := []) [.int v1, .int v2] (k_Hold_swap c8) mm_Hold_swap mi_Hold_swap ml_X11_212 dX11_exchange_17 g7 rfl (Nat.le_of_ble_eq_true rfl) rfl rfl (Nat.le_of_ble_eq_true rfl) ?_
    refine jv_nf 20 [] rfl rfl ?_
    refine jv_aload_n hC 0 dX11_exchange_20 rfl ?_
    obtain ⟨g10, hF⟩ := hg_some hF
    refine jv_getR hC fl_X11_33 dX11_exchange_21 rfl g1 g10 ?_
    refine jv_iload_n hC 1 dX11_exchange_24 rfl ?_
    refine jv_iload_n hC 2 dX11_exchange_25 rfl ?_
    obtain ⟨g11, hF⟩ := hg_some hF
    obtain ⟨M13, c12, hF⟩ := hv_some hF
    refine jv_callV hC (st := []) [.int v1, .int v2] (k_History_note c12) mm_History_note mi_History_note ml_X11_216 dX11_exchange_26 g11 rfl (Nat.le_of_ble_eq_true rfl) rfl rfl (Nat.le_of_ble_eq_true rfl) ?_
    refine jv_nf 29 [] rfl rfl ?_
    refine jv_iconst hC dX11_exchange_29 c32_1 ?_
    obtain ⟨rfl, rfl⟩ := hr_some hF
    exact jv_zret hC (by decide) dX11_exchange_30
  · have hF := hi_pos h5 hF
    refine jv_iconst hC dX11_exchange_9 c32_0 ?_
    obtain ⟨rfl, rfl⟩ := hr_some hF
    exact jv_zret hC (by decide) dX11_exchange_10
set_option maxRecDepth 100000 in
set_option maxHeartbeats 4000000 in
theorem s_Rents_fall_3 {X : hm_X} {n : Nat} {S : hm_S} (hC : hm_C X RX6 cX6_fall 9 none 7 n S) {k16 : Nat → Nat → Nat → Int32 → Int32 → hm_M → Option hm_M} (hk16 : ∀ (v0 : Nat) (v1 : Nat) (v2 : Nat) (v3 : Int32) (v4 : Int32)  (M : hm_M) (M' : hm_M), k16 v0 v1 v2 v3 v4 M = some M' → hm_U X 16 [(0, .ref v0), (1, .ref v1), (2, .ref v2), (3, .int v3), (4, .int v4)] [] M (hm_Q X none M')) {v0 : Nat} {v1 : Nat} {v2 : Nat} {v3 : Int32} {v4 : Int32} {v6 : Int32} {M : hm_M} {M' : hm_M} (hF : b_Rents_fall_3 S k16 v0 v1 v2 v3 v4 v6 M = some M') : hm_U X 114 [(0, .ref v0), (1, .ref v1), (2, .ref v2), (3, .int v3), (4, .int v4), (6, .int v6)] [] M (hm_Q X none M') := by
  unfold b_Rents_fall_3 at hF
  refine jv_iload_n hC 3 dX6_fall_114 rfl ?_
  refine jv_iload hC 5 dX6_fall_115 rfl ?_
  refine jv_iconst hC dX6_fall_117 c32_m1 ?_
  refine jv_ixor hC dX6_fall_118 ?_
  refine jv_iand hC dX6_fall_119 ?_
  obtain ⟨x1, e2, hF⟩ := hl_some hF
  refine jv_topI e2 ?_
  refine jv_istore_n hC [(3, .int x1), (0, .ref v0), (1, .ref v1), (2, .ref v2), (4, .int v4), (6, .int v6)] dX6_fall_120 (by decide) rfl ?_
  refine jv_iinc hC 4 [(4, .int (v4 + (1 : Int32))), (3, .int x1), (0, .ref v0), (1, .ref v1), (2, .ref v2), (6, .int v6)] dX6_fall_121 rfl c32_1 (by decide) rfl ?_
  refine jv_goto hC 16 dX6_fall_124 (by decide) ?_
  refine jv_sub [2, 3, 4, 1, 0] (ls' := [(0, .ref v0), (1, .ref v1), (2, .ref v2), (3, .int x1), (4, .int (v4 + (1 : Int32)))]) rfl ?_
  exact jv_pc 16 rfl (hk16 _ _ _ _ _ _ _ hF)
set_option maxRecDepth 100000 in
set_option maxHeartbeats 4000000 in
theorem t_Rents_fall_2 {X : hm_X} {n : Nat} {S : hm_S} (hC : hm_C X RX6 cX6_fall 9 none 7 n S) {k16 : Nat → Nat → Nat → Int32 → Int32 → hm_M → Option hm_M} (hk16 : ∀ (v0 : Nat) (v1 : Nat) (v2 : Nat) (v3 : Int32) (v4 : Int32)  (M : hm_M) (M' : hm_M), k16 v0 v1 v2 v3 v4 M = some M' → hm_U X 16 [(0, .ref v0), (1, .ref v1), (2, .ref v2), (3, .int v3), (4, .int v4)] [] M (hm_Q X none M')) {k37 : Nat → Nat → Nat → Int32 → Int32 → Int32 → Int32 → Int32 → hm_M → Option hm_M} (hk37 : ∀ (v0 : Nat) (v1 : Nat) (v2 : Nat) (v3 : Int32) (v4 : Int32) (v5 : Int32) (v6 : Int32) (v7 : Int32)  (M : hm_M) (M' : hm_M), k37 v0 v1 v2 v3 v4 v5 v6 v7 M = some M' → hm_U X 37 [(0, .ref v0), (1, .ref v1), (2, .ref v2), (3, .int v3), (4, .int v4), (5, .int v5), (6, .int v6), (7, .int v7)] [] M (hm_Q X none M')) {v0 : Nat} {v1 : Nat} {v2 : Nat} {v3 : Int32} {v4 : Int32} {v5 : Int32} {v6 : Int32} {v7 : Int32} {M : hm_M} {M' : hm_M} (hF : b_Rents_fall_2 S k16 k37 v0 v1 v2 v3 v4 v5 v6 v7 M = some M') : hm_U X 37 [(0, .ref v0), (1, .ref v1), (2, .ref v2), (3, .int v3), (4, .int v4), (5, .int v5), (6, .int v6), (7, .int v7)] [] M (hm_Q X none M') := by
  unfold b_Rents_fall_2 at hF
  refine jv_iload hC 7 dX6_fall_37 rfl ?_
  refine jv_aload_n hC 1 dX6_fall_39 rfl ?_
  obtain ⟨g1, hF⟩ := hg_some hF
  obtain ⟨g2, hF⟩ := hg_some hF
  refine jv_getR hC fl_X6_64 dX6_fall_40 rfl g1 g2 ?_
  obtain ⟨g3, hF⟩ := hg_some hF
  refine jv_getI hC fl_X6_133 dX6_fall_43 rfl g3 ?_
  refine jv_icmp_ge hC 114 dX6_fall_46 (by decide) (fun h4 => ?_) (fun h4 => ?_)
  · have hF := hi_pos h4 hF
    refine jv_sub [0, 1, 2, 3, 4, 6] (ls' := [(0, .ref v0), (1, .ref v1), (2, .ref v2), (3, .int v3), (4, .int v4), (6, .int v6)]) rfl ?_
    exact jv_pc 114 rfl (s_Rents_fall_3 hC hk16 hF)
  · have hF := hi_neg h4 hF
    refine jv_iload hC 7 dX6_fall_49 rfl ?_
    refine jv_bipush hC dX6_fall_51 c8_6 ?_
    refine jv_icmp_ge hC 114 dX6_fall_53 (by decide) (fun h5 => ?_) (fun h5 => ?_)
    · have hF := hi_pos h5 hF
      refine jv_sub [0, 1, 2, 3, 4, 6] (ls' := [(0, .ref v0), (1, .ref v1), (2, .ref v2), (3, .int v3), (4, .int v4), (6, .int v6)]) rfl ?_
      exact jv_pc 114 rfl (s_Rents_fall_3 hC hk16 hF)
    · have hF := hi_neg h5 hF
      refine jv_aload_n hC 2 dX6_fall_56 rfl ?_
      refine jv_iload hC 7 dX6_fall_57 rfl ?_
      obtain ⟨g6, hF⟩ := hg_some hF
      obtain ⟨r9, M8, c7, hF⟩ := hb_some hF
      refine jv_callV hC (st := []) [.int v7] (k_Hold_panesOf c7) mm_Hold_panesOf mi_Hold_panesOf ml_X6_136 dX6_fall_59 g6 rfl (Nat.le_of_ble_eq_true rfl) rfl rfl (Nat.le_of_ble_eq_true rfl) ?_
      refine jv_nf 62 [.int r9] rfl rfl ?_
      refine jv_iload_n hC 3 dX6_fall_62 rfl ?_
      refine jv_iand hC dX6_fall_63 ?_
      obtain ⟨x10, e11, hF⟩ := hl_some hF
      refine jv_topI e11 ?_
      refine jv_istore hC [(8, .int x10), (0, .ref v0), (1, .ref v1), (2, .ref v2), (3, .int v3), (4, .int v4), (5, .int v5), (6, .int v6), (7, .int v7)] dX6_fall_64 (by decide) rfl ?_
      refine jv_iload hC 0 dX6_fall_66 rfl ?_
      refine jv_if_eq hC 108 dX6_fall_68 (by decide) (fun h12 => ?_) (fun h12 => ?_)
      · have hF := hi_pos h12 hF
        refine jv_iinc hC 8 [(7, .int (v7 + (1 : Int32))), (8, .int x10), (0, .ref v0), (1, .ref v1), (2, .ref v2), (3, .int v3), (4, .int v4), (5, .int v5), (6, .int v6)] dX6_fall_108 rfl c32_1 (by decide) rfl ?_
        refine jv_goto hC 37 dX6_fall_111 (by decide) ?_
        refine jv_sub [2, 3, 4, 5, 6, 7, 8, 0] (ls' := [(0, .ref v0), (1, .ref v1), (2, .ref v2), (3, .int v3), (4, .int v4), (5, .int v5), (6, .int v6), (7, .int (v7 + (1 : Int32)))]) rfl ?_
        exact jv_pc 37 rfl (hk37 _ _ _ _ _ _ _ _ _ _ hF)
      · have hF := hi_neg h12 hF
        refine jv_aload_n hC 1 dX6_fall_71 rfl ?_
        refine jv_iload hC 6 dX6_fall_72 rfl ?_
        refine jv_iload hC 0 dX6_fall_74 rfl ?_
        obtain ⟨g13, hF⟩ := hg_some hF
        obtain ⟨r16, M15, c14, hF⟩ := hb_some hF
        refine jv_callV hC (st := []) [.int v5, .int x10] (k_Rents_givenBy c14) mm_Rents_givenBy mi_Rents_givenBy ml_X6_139 dX6_fall_76 g13 rfl (Nat.le_of_ble_eq_true rfl) rfl rfl (Nat.le_of_ble_eq_true rfl) ?_
        refine jv_nf 79 [.int r16] rfl rfl ?_
        refine jv_aload_n hC 2 dX6_fall_79 rfl ?_
        obtain ⟨g17, hF⟩ := hg_some hF
        refine jv_getR hC fl_X6_64 dX6_fall_80 rfl g1 g17 ?_
        obtain ⟨g18, hF⟩ := hg_some hF
        obtain ⟨g19, hF⟩ := hg_some hF
        refine jv_getR hC fl_X6_142 dX6_fall_83 rfl g18 g19 ?_
        refine jv_iload hC 8 dX6_fall_86 rfl ?_
        obtain ⟨g20, hF⟩ := hg_some hF
        obtain ⟨n21, sn21, in21⟩ := hm_ib_ok g20
        refine jv_iaload hC dX6_fall_88 sn21 in21 ?_
        refine jv_icmp_ge hC 108 dX6_fall_89 (by decide) (fun h22 => ?_) (fun h22 => ?_)
        · have hF := hi_pos h22 hF
          refine jv_iinc hC 8 [(7, .int (v7 + (1 : Int32))), (8, .int x10), (0, .ref v0), (1, .ref v1), (2, .ref v2), (3, .int v3), (4, .int v4), (5, .int v5), (6, .int v6)] dX6_fall_108 rfl c32_1 (by decide) rfl ?_
          refine jv_goto hC 37 dX6_fall_111 (by decide) ?_
          refine jv_sub [2, 3, 4, 5, 6, 7, 8, 0] (ls' := [(0, .ref v0), (1, .ref v1), (2, .ref v2), (3, .int v3), (4, .int v4), (5, .int v5), (6, .int v6), (7, .int (v7 + (1 : Int32)))]) rfl ?_
          exact jv_pc 37 rfl (hk37 _ _ _ _ _ _ _ _ _ _ hF)
        · have hF := hi_neg h22 hF
          refine jv_aload_n hC 1 dX6_fall_92 rfl ?_
          obtain ⟨g23, hF⟩ := hg_some hF
          refine jv_getR hC fl_X6_25 dX6_fall_93 rfl g13 g23 ?_
          refine jv_iload hC 8 dX6_fall_96 rfl ?_
          refine jv_iload hC 5 dX6_fall_98 rfl ?_
          obtain ⟨g24, hF⟩ := hg_some hF
          obtain ⟨n25, sn25, in25⟩ := hm_ib_ok g24
          refine jv_iastore hC dX6_fall_100 sn25 in25 ?_
          obtain ⟨M26, e27, hF⟩ := hl_some hF
          refine jv_mem e27 ?_
          refine jv_iload hC 7 dX6_fall_101 rfl ?_
          refine jv_iload hC 0 dX6_fall_103 rfl ?_
          refine jv_pc 105 rfl ?_
          refine jv_ior hC dX6_fall_105 ?_
          obtain ⟨x28, e29, hF⟩ := hl_some hF
          refine jv_topI e29 ?_
          refine jv_istore hC [(6, .int x28), (8, .int x10), (0, .ref v0), (1, .ref v1), (2, .ref v2), (3, .int v3), (4, .int v4), (5, .int v5), (7, .int v7)] dX6_fall_106 (by decide) rfl ?_
          refine jv_sub [0, 2, 3, 4, 5, 6, 7, 8] (ls' := [(6, .int x28), (0, .ref v0), (1, .ref v1), (2, .ref v2), (3, .int v3), (4, .int v4), (5, .int v5), (7, .int v7)]) rfl ?_
          refine jv_iinc hC 7 [(7, .int (v7 + (1 : Int32))), (6, .int x28), (0, .ref v0), (1, .ref v1), (2, .ref v2), (3, .int v3), (4, .int v4), (5, .int v5)] dX6_fall_108 rfl c32_1 (by decide) rfl ?_
          refine jv_goto hC 37 dX6_fall_111 (by decide) ?_
          refine jv_sub [2, 3, 4, 5, 6, 7, 1, 0] (ls' := [(0, .ref v0), (1, .ref v1), (2, .ref v2), (3, .int v3), (4, .int v4), (5, .int v5), (6, .int x28), (7, .int (v7 + (1 : Int32)))]) rfl ?_
          exact jv_pc 37 rfl (hk37 _ _ _ _ _ _ _ _ _ _ hF)
theorem s_Rents_fall_2 {X : hm_X} {n : Nat} {S : hm_S} (hC : hm_C X RX6 cX6_fall 9 none 7 n S) {k16 : Nat → Nat → Nat → Int32 → Int32 → hm_M → Option hm_M} (hk16 : ∀ (v0 : Nat) (v1 : Nat) (v2 : Nat) (v3 : Int32) (v4 : Int32)  (M : hm_M) (M' : hm_M), k16 v0 v1 v2 v3 v4 M = some M' → hm_U X 16 [(0, .ref v0), (1, .ref v1), (2, .ref v2), (3, .int v3), (4, .int v4)] [] M (hm_Q X none M')) : ∀ (q : Nat) (v0 : Nat) (v1 : Nat) (v2 : Nat) (v3 : Int32) (v4 : Int32) (v5 : Int32) (v6 : Int32) (v7 : Int32) (M : hm_M) (M' : hm_M), f_Rents_fall_2 S k16 q v0 v1 v2 v3 v4 v5 v6 v7 M = some M' → hm_U X 37 [(0, .ref v0), (1, .ref v1), (2, .ref v2), (3, .int v3), (4, .int v4), (5, .int v5), (6, .int v6), (7, .int v7)] [] M (hm_Q X none M') := by
  intro q
  induction q with
  | zero => intro v0 v1 v2 v3 v4 v5 v6 v7 M M' hF; cases hF
  | succ q ih => intro v0 v1 v2 v3 v4 v5 v6 v7 M M' hF; exact t_Rents_fall_2 hC hk16 ih hF
set_option maxRecDepth 100000 in
set_option maxHeartbeats 4000000 in
theorem t_Rents_fall_1 {X : hm_X} {n : Nat} {S : hm_S} (hC : hm_C X RX6 cX6_fall 9 none 7 n S) {k16 : Nat → Nat → Nat → Int32 → Int32 → hm_M → Option hm_M} (hk16 : ∀ (v0 : Nat) (v1 : Nat) (v2 : Nat) (v3 : Int32) (v4 : Int32)  (M : hm_M) (M' : hm_M), k16 v0 v1 v2 v3 v4 M = some M' → hm_U X 16 [(0, .ref v0), (1, .ref v1), (2, .ref v2), (3, .int v3), (4, .int v4)] [] M (hm_Q X none M')) {v0 : Nat} {v1 : Nat} {v2 : Nat} {v3 : Int32} {v4 : Int32} {M : hm_M} {M' : hm_M} (hF : b_Rents_fall_1 S k16 v0 v1 v2 v3 v4 M = some M') : hm_U X 16 [(0, .ref v0), (1, .ref v1), (2, .ref v2), (3, .int v3), (4, .int v4)] [] M (hm_Q X none M') := by
  unfold b_Rents_fall_1 at hF
  refine jv_iload hC 4 dX6_fall_16 rfl ?_
  refine jv_bipush hC dX6_fall_18 c8_6 ?_
  refine jv_icmp_gt hC 127 dX6_fall_20 (by decide) (fun h1 => ?_) (fun h1 => ?_)
  · have hF := hi_pos h1 hF
    obtain rfl := hr_somev hF
    exact jv_vret hC dX6_fall_127
  · have hF := hi_neg h1 hF
    refine jv_aload_n hC 0 dX6_fall_23 rfl ?_
    refine jv_aload_n hC 1 dX6_fall_24 rfl ?_
    refine jv_iload_n hC 3 dX6_fall_25 rfl ?_
    obtain ⟨g2, hF⟩ := hg_some hF
    obtain ⟨r5, M4, c3, hF⟩ := hb_some hF
    refine jv_callV hC (st := []) [.ref v1, .int v3] (k_Rents_yearOf c3) mm_Rents_yearOf mi_Rents_yearOf ml_X6_129 dX6_fall_26 g2 rfl (Nat.le_of_ble_eq_true rfl) rfl rfl (Nat.le_of_ble_eq_true rfl) ?_
    refine jv_nf 29 [.int r5] rfl rfl ?_
    refine jv_istore hC [(5, .int r5), (0, .ref v0), (1, .ref v1), (2, .ref v2), (3, .int v3), (4, .int v4)] dX6_fall_29 (by decide) rfl ?_
    refine jv_iconst hC dX6_fall_31 c32_0 ?_
    refine jv_istore hC [(6, .int (0 : Int32)), (5, .int r5), (0, .ref v0), (1, .ref v1), (2, .ref v2), (3, .int v3), (4, .int v4)] dX6_fall_32 (by decide) rfl ?_
    refine jv_iconst hC dX6_fall_34 c32_0 ?_
    refine jv_istore hC [(7, .int (0 : Int32)), (6, .int (0 : Int32)), (5, .int r5), (0, .ref v0), (1, .ref v1), (2, .ref v2), (3, .int v3), (4, .int v4)] dX6_fall_35 (by decide) rfl ?_
    refine jv_sub [3, 4, 5, 6, 7, 2, 1, 0] (ls' := [(0, .ref v0), (1, .ref v1), (2, .ref v2), (3, .int v3), (4, .int v4), (5, .int r5), (6, .int (0 : Int32)), (7, .int (0 : Int32))]) rfl ?_
    exact jv_pc 37 rfl (s_Rents_fall_2 hC hk16 hN _ _ _ _ _ _ _ _ _ _ hF)
theorem s_Rents_fall_1 {X : hm_X} {n : Nat} {S : hm_S} (hC : hm_C X RX6 cX6_fall 9 none 7 n S) : ∀ (q : Nat) (v0 : Nat) (v1 : Nat) (v2 : Nat) (v3 : Int32) (v4 : Int32) (M : hm_M) (M' : hm_M), f_Rents_fall_1 S  q v0 v1 v2 v3 v4 M = some M' → hm_U X 16 [(0, .ref v0), (1, .ref v1), (2, .ref v2), (3, .int v3), (4, .int v4)] [] M (hm_Q X none M') := by
  intro q
  induction q with
  | zero => intro v0 v1 v2 v3 v4 M M' hF; cases hF
  | succ q ih => intro v0 v1 v2 v3 v4 M M' hF; exact t_Rents_fall_1 hC ih hF
set_option maxRecDepth 100000 in
set_option maxHeartbeats 4000000 in
theorem k_Rents_fall {n : Nat} {S : hm_S} {v0 : Nat} {v1 : Nat} {v2 : Nat} {M : hm_M} {M' : hm_M} (hF : f_Rents_fall S v0 v1 v2 M = some M') : hm_KM yX6_fall cX6_fall 9 none 7 n S [.ref v0, .ref v1, .ref v2] M none M' := by
  refine hm_enter mm_Rents_fall (Nat.le_of_ble_eq_true rfl) (fun X hC => ?_)
  show hm_U X 0 [(0, .ref v0), (1, .ref v1), (2, .ref v2)] [] M _
  unfold f_Rents_fall at hF
  refine jv_aload_n hC 0 dX6_fall_0 rfl ?_
  obtain ⟨g1, hF⟩ := hg_some hF
  obtain ⟨g2, hF⟩ := hg_some hF
  refine jv_getR hC fl_X6_25 dX6_fall_1 rfl g1 g2 ?_
  refine jv_iconst hC dX6_fall_4 c32_0 ?_
  obtain ⟨M4, c3, hF⟩ := hv_some hF
  refine jv_callS hC (st := []) [.ref (M.2.2 v0 4), .int (0 : Int32)] (k_J7_fill_53178 c3) mm_J7_fill_53178 ms_J7_fill_53178 ml_X6_119 dX6_fall_5 (Nat.le_of_ble_eq_true rfl) rfl rfl (Nat.le_of_ble_eq_true rfl) ?_
  refine jv_nf 8 [] rfl rfl ?_
  refine jv_aload_n hC 2 dX6_fall_8 rfl ?_
  obtain ⟨g5, hF⟩ := hg_some hF
  obtain ⟨r8, M7, c6, hF⟩ := hb_some hF
  refine jv_callV hC (st := []) [] (k_Hold_lit c6) mm_Hold_lit mi_Hold_lit ml_X6_125 dX6_fall_9 g5 rfl (Nat.le_of_ble_eq_true rfl) rfl rfl (Nat.le_of_ble_eq_true rfl) ?_
  refine jv_nf 12 [.int r8] rfl rfl ?_
  refine jv_istore_n hC [(3, .int r8), (0, .ref v0), (1, .ref v1), (2, .ref v2)] dX6_fall_12 (by decide) rfl ?_
  refine jv_iconst hC dX6_fall_13 c32_1 ?_
  refine jv_istore hC [(4, .int (1 : Int32)), (3, .int r8), (0, .ref v0), (1, .ref v1), (2, .ref v2)] dX6_fall_14 (by decide) rfl ?_
  refine jv_sub [2, 3, 4, 1, 0] (ls' := [(0, .ref v0), (1, .ref v1), (2, .ref v2), (3, .int r8), (4, .int (1 : Int32))]) rfl ?_
  exact jv_pc 16 rfl (s_Rents_fall_1 hC hN _ _ _ _ _ _ _ hF)
set_option maxRecDepth 100000 in
set_option maxHeartbeats 4000000 in
theorem t_Ps_fallen_1 {X : hm_X} {n : Nat} {S : hm_S} (hC : hm_C X RX11 cX11_fallen 3 (some .int) 8 n S) {k19 : Nat → Int32 → Int32 → hm_M → Option (Int32 × hm_M)} (hk19 : ∀ (v0 : Nat) (v1 : Int32) (v2 : Int32)  (M : hm_M) (r : Int32) (M' : hm_M), k19 v0 v1 v2 M = some (r, M') → hm_U X 19 [(0, .ref v0), (1, .int v1), (2, .int v2)] [] M (hm_Q X (some (.int r)) M')) {v0 : Nat} {v1 : Int32} {v2 : Int32} {M : hm_M} {r : Int32} {M' : hm_M} (hF : b_Ps_fallen_1 S k19 v0 v1 v2 M = some (r, M')) : hm_U X 19 [(0, .ref v0), (1, .int v1), (2, .int v2)] [] M (hm_Q X (some (.int r)) M') := by
  unfold b_Ps_fallen_1 at hF
  refine jv_iload_n hC 2 dX11_fallen_19 rfl ?_
  refine jv_bipush hC dX11_fallen_20 c8_6 ?_
  refine jv_icmp_ge hC 49 dX11_fallen_22 (by decide) (fun h1 => ?_) (fun h1 => ?_)
  · have hF := hi_pos h1 hF
    refine jv_iload_n hC 1 dX11_fallen_49 rfl ?_
    obtain ⟨rfl, rfl⟩ := hr_some hF
    exact jv_iret hC dX11_fallen_50
  · have hF := hi_neg h1 hF
    refine jv_aload_n hC 0 dX11_fallen_25 rfl ?_
    obtain ⟨g2, hF⟩ := hg_some hF
    obtain ⟨g3, hF⟩ := hg_some hF
    refine jv_getR hC fl_X11_40 dX11_fallen_26 rfl g2 g3 ?_
    obtain ⟨g4, hF⟩ := hg_some hF
    obtain ⟨g5, hF⟩ := hg_some hF
    refine jv_getR hC fl_X11_226 dX11_fallen_29 rfl g4 g5 ?_
    refine jv_iload_n hC 2 dX11_fallen_32 rfl ?_
    obtain ⟨g6, hF⟩ := hg_some hF
    obtain ⟨n7, sn7, in7⟩ := hm_ib_ok g6
    refine jv_iaload hC dX11_fallen_33 sn7 in7 ?_
    refine jv_if_le hC 43 dX11_fallen_34 (by decide) (fun h8 => ?_) (fun h8 => ?_)
    · have hF := hi_pos h8 hF
      refine jv_iinc hC 2 [(2, .int (v2 + (1 : Int32))), (0, .ref v0), (1, .int v1)] dX11_fallen_43 rfl c32_1 (by decide) rfl ?_
      refine jv_goto hC 19 dX11_fallen_46 (by decide) ?_
      refine jv_sub [1, 2, 0] (ls' := [(0, .ref v0), (1, .int v1), (2, .int (v2 + (1 : Int32)))]) rfl ?_
      exact jv_pc 19 rfl (hk19 _ _ _ _ _ _ hF)
    · have hF := hi_neg h8 hF
      refine jv_iload_n hC 1 dX11_fallen_37 rfl ?_
      refine jv_iconst hC dX11_fallen_38 c32_1 ?_
      refine jv_iload_n hC 2 dX11_fallen_39 rfl ?_
      refine jv_ishl hC dX11_fallen_40 ?_
      refine jv_ior hC dX11_fallen_41 ?_
      obtain ⟨x9, e10, hF⟩ := hl_some hF
      refine jv_topI e10 ?_
      refine jv_istore_n hC [(1, .int x9), (0, .ref v0), (2, .int v2)] dX11_fallen_42 (by decide) rfl ?_
      refine jv_iinc hC 2 [(2, .int (v2 + (1 : Int32))), (1, .int x9), (0, .ref v0)] dX11_fallen_43 rfl c32_1 (by decide) rfl ?_
      refine jv_goto hC 19 dX11_fallen_46 (by decide) ?_
      refine jv_sub [2, 1, 0] (ls' := [(0, .ref v0), (1, .int x9), (2, .int (v2 + (1 : Int32)))]) rfl ?_
      exact jv_pc 19 rfl (hk19 _ _ _ _ _ _ hF)
theorem s_Ps_fallen_1 {X : hm_X} {n : Nat} {S : hm_S} (hC : hm_C X RX11 cX11_fallen 3 (some .int) 8 n S) : ∀ (q : Nat) (v0 : Nat) (v1 : Int32) (v2 : Int32) (M : hm_M) (r : Int32) (M' : hm_M), f_Ps_fallen_1 S  q v0 v1 v2 M = some (r, M') → hm_U X 19 [(0, .ref v0), (1, .int v1), (2, .int v2)] [] M (hm_Q X (some (.int r)) M') := by
  intro q
  induction q with
  | zero => intro v0 v1 v2 M r M' hF; cases hF
  | succ q ih => intro v0 v1 v2 M r M' hF; exact t_Ps_fallen_1 hC ih hF
set_option maxRecDepth 100000 in
set_option maxHeartbeats 4000000 in
theorem k_Ps_fallen {n : Nat} {S : hm_S} {v0 : Nat} {M : hm_M} {r : Int32} {M' : hm_M} (hF : f_Ps_fallen S v0 M = some (r, M')) : hm_KM yX11_fallen cX11_fallen 3 (some .int) 8 n S [.ref v0] M (some (.int r)) M' := by
  refine hm_enter mm_Ps_fallen (Nat.le_of_ble_eq_true rfl) (fun X hC => ?_)
  show hm_U X 0 [(0, .ref v0)] [] M _
  unfold f_Ps_fallen at hF
  refine jv_aload_n hC 0 dX11_fallen_0 rfl ?_
  obtain ⟨g1, hF⟩ := hg_some hF
  obtain ⟨g2, hF⟩ := hg_some hF
  refine jv_getR hC fl_X11_40 dX11_fallen_1 rfl g1 g2 ?_
  refine jv_aload_n hC 0 dX11_fallen_4 rfl ?_
  obtain ⟨g3, hF⟩ := hg_some hF
  refine jv_getR hC fl_X11_19 dX11_fallen_5 rfl g1 g3 ?_
  refine jv_aload_n hC 0 dX11_fallen_8 rfl ?_
  obtain ⟨g4, hF⟩ := hg_some hF
  refine jv_getR hC fl_X11_26 dX11_fallen_9 rfl g1 g4 ?_
  obtain ⟨g5, hF⟩ := hg_some hF
  obtain ⟨M7, c6, hF⟩ := hv_some hF
  refine jv_callV hC (st := []) [.ref (M.2.2 v0 1), .ref (M.2.2 v0 2)] (k_Rents_fall c6) mm_Rents_fall mi_Rents_fall ml_X11_222 dX11_fallen_12 g5 rfl (Nat.le_of_ble_eq_true rfl) rfl rfl (Nat.le_of_ble_eq_true rfl) ?_
  refine jv_nf 15 [] rfl rfl ?_
  refine jv_iconst hC dX11_fallen_15 c32_0 ?_
  refine jv_istore_n hC [(1, .int (0 : Int32)), (0, .ref v0)] dX11_fallen_16 (by decide) rfl ?_
  refine jv_iconst hC dX11_fallen_17 c32_0 ?_
  refine jv_istore_n hC [(2, .int (0 : Int32)), (1, .int (0 : Int32)), (0, .ref v0)] dX11_fallen_18 (by decide) rfl ?_
  refine jv_sub [2, 1, 0] (ls' := [(0, .ref v0), (1, .int (0 : Int32)), (2, .int (0 : Int32))]) rfl ?_
  exact jv_pc 19 rfl (s_Ps_fallen_1 hC hN _ _ _ _ _ _ hF)
set_option maxRecDepth 100000 in
set_option maxHeartbeats 4000000 in
theorem k_Ps_falls {n : Nat} {S : hm_S} {v0 : Nat} {v1 : Int32} {M : hm_M} {r : Int32} {M' : hm_M} (hF : f_Ps_falls S v0 v1 M = some (r, M')) : hm_KM yX11_falls cX11_falls 2 (some .int) 8 n S [.ref v0, .int v1] M (some (.int r)) M' := by
  refine hm_enter mm_Ps_falls (Nat.le_of_ble_eq_true rfl) (fun X hC => ?_)
  show hm_U X 0 [(0, .ref v0), (1, .int v1)] [] M _
  unfold f_Ps_falls at hF
  refine jv_aload_n hC 0 dX11_falls_0 rfl ?_
  refine jv_iload_n hC 1 dX11_falls_1 rfl ?_
  obtain ⟨g1, hF⟩ := hg_some hF
  obtain ⟨r4, M3, c2, hF⟩ := hb_some hF
  refine jv_callV hC (st := []) [.int v1] (k_Ps_isGuild c2) mm_Ps_isGuild mi_Ps_isGuild ml_X11_109 dX11_falls_2 g1 rfl (Nat.le_of_ble_eq_true rfl) rfl rfl (Nat.le_of_ble_eq_true rfl) ?_
  refine jv_nf 5 [.int r4] rfl rfl ?_
  refine jv_if_ne hC 10 dX11_falls_5 (by decide) (fun h5 => ?_) (fun h5 => ?_)
  · have hF := hi_neg h5 hF
    refine jv_aload_n hC 0 dX11_falls_10 rfl ?_
    obtain ⟨g6, hF⟩ := hg_some hF
    refine jv_getR hC fl_X11_40 dX11_falls_11 rfl g1 g6 ?_
    refine jv_aload_n hC 0 dX11_falls_14 rfl ?_
    obtain ⟨g7, hF⟩ := hg_some hF
    refine jv_getR hC fl_X11_19 dX11_falls_15 rfl g1 g7 ?_
    refine jv_aload_n hC 0 dX11_falls_18 rfl ?_
    obtain ⟨g8, hF⟩ := hg_some hF
    refine jv_getR hC fl_X11_26 dX11_falls_19 rfl g1 g8 ?_
    obtain ⟨g9, hF⟩ := hg_some hF
    obtain ⟨M11, c10, hF⟩ := hv_some hF
    refine jv_callV hC (st := []) [.ref (M3.2.2 v0 1), .ref (M3.2.2 v0 2)] (k_Rents_fall c10) mm_Rents_fall mi_Rents_fall ml_X11_222 dX11_falls_22 g9 rfl (Nat.le_of_ble_eq_true rfl) rfl rfl (Nat.le_of_ble_eq_true rfl) ?_
    refine jv_nf 25 [] rfl rfl ?_
    refine jv_aload_n hC 0 dX11_falls_25 rfl ?_
    obtain ⟨g12, hF⟩ := hg_some hF
    refine jv_getR hC fl_X11_40 dX11_falls_26 rfl g1 g12 ?_
    obtain ⟨g13, hF⟩ := hg_some hF
    obtain ⟨g14, hF⟩ := hg_some hF
    refine jv_getR hC fl_X11_226 dX11_falls_29 rfl g13 g14 ?_
    refine jv_iload_n hC 1 dX11_falls_32 rfl ?_
    obtain ⟨g15, hF⟩ := hg_some hF
    obtain ⟨n16, sn16, in16⟩ := hm_ib_ok g15
    refine jv_iaload hC dX11_falls_33 sn16 in16 ?_
    obtain ⟨rfl, rfl⟩ := hr_some hF
    exact jv_iret hC dX11_falls_34
  · have hF := hi_pos h5 hF
    refine jv_iconst hC dX11_falls_8 c32_m1 ?_
    obtain ⟨rfl, rfl⟩ := hr_some hF
    exact jv_iret hC dX11_falls_9
set_option maxRecDepth 100000 in
set_option maxHeartbeats 4000000 in
theorem k_Tape_isFed {n : Nat} {S : hm_S} {v0 : Int32} {M : hm_M} {r : Int32} {M' : hm_M} (hF : f_Tape_isFed S v0 M = some (r, M')) : hm_KM yX7_isFed cX7_isFed 1 (some .boolean) 1 n S [.int v0] M (some (.int r)) M' := by
  refine hm_enter mm_Tape_isFed (Nat.le_of_ble_eq_true rfl) (fun X hC => ?_)
  show hm_U X 0 [(0, .int v0)] [] M _
  unfold f_Tape_isFed at hF
  refine jv_iload_n hC 0 dX7_isFed_0 rfl ?_
  refine jv_bipush hC dX7_isFed_1 c8_10 ?_
  refine jv_icmp_eq hC 18 dX7_isFed_3 (by decide) (fun h1 => ?_) (fun h1 => ?_)
  · have hF := hi_pos h1 hF
    refine jv_iconst hC dX7_isFed_18 c32_1 ?_
    refine jv_goto hC 23 dX7_isFed_19 (by decide) ?_
    obtain ⟨rfl, rfl⟩ := hr_some hF
    exact jv_zret hC (by decide) dX7_isFed_23
  · have hF := hi_neg h1 hF
    refine jv_iload_n hC 0 dX7_isFed_6 rfl ?_
    refine jv_bipush hC dX7_isFed_7 c8_32 ?_
    refine jv_icmp_lt hC 22 dX7_isFed_9 (by decide) (fun h2 => ?_) (fun h2 => ?_)
    · have hF := hi_pos h2 hF
      refine jv_iconst hC dX7_isFed_22 c32_0 ?_
      obtain ⟨rfl, rfl⟩ := hr_some hF
      exact jv_zret hC (by decide) dX7_isFed_23
    · have hF := hi_neg h2 hF
      refine jv_iload_n hC 0 dX7_isFed_12 rfl ?_
      refine jv_bipush hC dX7_isFed_13 c8_126 ?_
      refine jv_icmp_gt hC 22 dX7_isFed_15 (by decide) (fun h3 => ?_) (fun h3 => ?_)
      · have hF := hi_pos h3 hF
        refine jv_iconst hC dX7_isFed_22 c32_0 ?_
        obtain ⟨rfl, rfl⟩ := hr_some hF
        exact jv_zret hC (by decide) dX7_isFed_23
      · have hF := hi_neg h3 hF
        refine jv_iconst hC dX7_isFed_18 c32_1 ?_
        refine jv_goto hC 23 dX7_isFed_19 (by decide) ?_
        obtain ⟨rfl, rfl⟩ := hr_some hF
        exact jv_zret hC (by decide) dX7_isFed_23
set_option maxRecDepth 100000 in
set_option maxHeartbeats 4000000 in
theorem t_Tape_add_1 {X : hm_X} {n : Nat} {S : hm_S} (hC : hm_C X RX7 cX7_add 5 none 2 n S) {k3 : Nat → Int64 → Int32 → hm_M → Option hm_M} (hk3 : ∀ (v0 : Nat) (v1 : Int64) (v3 : Int32)  (M : hm_M) (M' : hm_M), k3 v0 v1 v3 M = some M' → hm_U X 3 [(0, .ref v0), (1, .long v1), (3, .int v3)] [] M (hm_Q X none M')) {v0 : Nat} {v1 : Int64} {v3 : Int32} {M : hm_M} {M' : hm_M} (hF : b_Tape_add_1 S k3 v0 v1 v3 M = some M') : hm_U X 3 [(0, .ref v0), (1, .long v1), (3, .int v3)] [] M (hm_Q X none M') := by
  unfold b_Tape_add_1 at hF
  refine jv_iload_n hC 2 dX7_add_3 rfl ?_
  refine jv_if_lt hC 63 dX7_add_4 (by decide) (fun h1 => ?_) (fun h1 => ?_)
  · have hF := hi_pos h1 hF
    obtain rfl := hr_somev hF
    exact jv_vret hC dX7_add_63
  · have hF := hi_neg h1 hF
    refine jv_lload_n hC 1 dX7_add_7 rfl ?_
    refine jv_iload_n hC 2 dX7_add_8 rfl ?_
    refine jv_lushr hC dX7_add_9 ?_
    refine jv_l2i hC dX7_add_10 ?_
    refine jv_sipush hC dX7_add_11 c16_255 ?_
    refine jv_iand hC dX7_add_14 ?_
    obtain ⟨x2, e3, hF⟩ := hl_some hF
    refine jv_topI e3 ?_
    refine jv_istore hC [(4, .int x2), (0, .ref v0), (1, .long v1), (3, .int v3)] dX7_add_15 (by decide) rfl ?_
    refine jv_pc 17 rfl ?_
    refine jv_iload hC 0 dX7_add_17 rfl ?_
    obtain ⟨r6, M5, c4, hF⟩ := hb_some hF
    refine jv_callS hC (st := []) [.int x2] (k_Tape_isFed c4) mm_Tape_isFed ms_Tape_isFed ml_X7_35 dX7_add_19 (Nat.le_of_ble_eq_true rfl) rfl rfl (Nat.le_of_ble_eq_true rfl) ?_
    refine jv_nf 22 [.int r6] rfl rfl ?_
    refine jv_if_eq hC 57 dX7_add_22 (by decide) (fun h7 => ?_) (fun h7 => ?_)
    · have hF := hi_pos h7 hF
      refine jv_iinc hC 3 [(3, .int (v3 + (-8 : Int32))), (4, .int x2), (0, .ref v0), (1, .long v1)] dX7_add_57 rfl c32_m8 (by decide) rfl ?_
      refine jv_goto hC 3 dX7_add_60 (by decide) ?_
      refine jv_sub [2, 3, 0] (ls' := [(0, .ref v0), (1, .long v1), (3, .int (v3 + (-8 : Int32)))]) rfl ?_
      exact jv_pc 3 rfl (hk3 _ _ _ _ _ hF)
    · have hF := hi_neg h7 hF
      refine jv_aload_n hC 1 dX7_add_25 rfl ?_
      obtain ⟨g8, hF⟩ := hg_some hF
      refine jv_getI hC fl_X7_15 dX7_add_26 rfl g8 ?_
      refine jv_sipush hC dX7_add_29 c16_1000 ?_
      refine jv_icmp_ge hC 57 dX7_add_32 (by decide) (fun h9 => ?_) (fun h9 => ?_)
      · have hF := hi_pos h9 hF
        refine jv_iinc hC 3 [(3, .int (v3 + (-8 : Int32))), (4, .int x2), (0, .ref v0), (1, .long v1)] dX7_add_57 rfl c32_m8 (by decide) rfl ?_
        refine jv_goto hC 3 dX7_add_60 (by decide) ?_
        refine jv_sub [2, 3, 0] (ls' := [(0, .ref v0), (1, .long v1), (3, .int (v3 + (-8 : Int32)))]) rfl ?_
        exact jv_pc 3 rfl (hk3 _ _ _ _ _ hF)
      · have hF := hi_neg h9 hF
        refine jv_aload_n hC 1 dX7_add_35 rfl ?_
        obtain ⟨g10, hF⟩ := hg_some hF
        refine jv_getR hC fl_X7_9 dX7_add_36 rfl g8 g10 ?_
        refine jv_aload_n hC 1 dX7_add_39 rfl ?_
        refine jv_getI hC fl_X7_15 dX7_add_40 rfl g8 ?_
        refine jv_iload hC 0 dX7_add_43 rfl ?_
        refine jv_i2b hC dX7_add_45 ?_
        obtain ⟨g11, hF⟩ := hg_some hF
        obtain ⟨n12, sn12, in12⟩ := hm_ib_ok g11
        refine jv_bastore hC dX7_add_46 sn12 in12 ?_
        obtain ⟨M13, e14, hF⟩ := hl_some hF
        refine jv_mem e14 ?_
        refine jv_pc 47 rfl ?_
        refine jv_aload_n hC 1 dX7_add_47 rfl ?_
        refine jv_dup hC dX7_add_48 rfl ?_
        refine jv_getI hC fl_X7_15 dX7_add_49 rfl g8 ?_
        refine jv_iconst hC dX7_add_52 c32_1 ?_
        refine jv_iadd hC dX7_add_53 ?_
        refine jv_putI hC fl_X7_15 dX7_add_54 rfl rfl rfl g8 ?_
        obtain ⟨M15, e16, hF⟩ := hl_some hF
        refine jv_mem e16 ?_
        refine jv_iinc hC 3 [(3, .int (v3 + (-8 : Int32))), (4, .int x2), (0, .ref v0), (1, .long v1)] dX7_add_57 rfl c32_m8 (by decide) rfl ?_
        refine jv_goto hC 3 dX7_add_60 (by decide) ?_
        refine jv_sub [2, 3, 0] (ls' := [(0, .ref v0), (1, .long v1), (3, .int (v3 + (-8 : Int32)))]) rfl ?_
        exact jv_pc 3 rfl (hk3 _ _ _ _ _ hF)
theorem s_Tape_add_1 {X : hm_X} {n : Nat} {S : hm_S} (hC : hm_C X RX7 cX7_add 5 none 2 n S) : ∀ (q : Nat) (v0 : Nat) (v1 : Int64) (v3 : Int32) (M : hm_M) (M' : hm_M), f_Tape_add_1 S  q v0 v1 v3 M = some M' → hm_U X 3 [(0, .ref v0), (1, .long v1), (3, .int v3)] [] M (hm_Q X none M') := by
  intro q
  induction q with
  | zero => intro v0 v1 v3 M M' hF; cases hF
  | succ q ih => intro v0 v1 v3 M M' hF; exact t_Tape_add_1 hC ih hF
set_option maxRecDepth 100000 in
set_option maxHeartbeats 4000000 in
theorem k_Tape_add {n : Nat} {S : hm_S} {v0 : Nat} {v1 : Int64} {M : hm_M} {M' : hm_M} (hF : f_Tape_add S v0 v1 M = some M') : hm_KM yX7_add cX7_add 5 none 2 n S [.ref v0, .long v1] M none M' := by
  refine hm_enter mm_Tape_add (Nat.le_of_ble_eq_true rfl) (fun X hC => ?_)
  show hm_U X 0 [(0, .ref v0), (1, .long v1)] [] M _
  unfold f_Tape_add at hF
  refine jv_bipush hC dX7_add_0 c8_56 ?_
  refine jv_istore_n hC [(3, .int (56 : Int32)), (0, .ref v0), (1, .long v1)] dX7_add_2 (by decide) rfl ?_
  refine jv_sub [1, 2, 0] (ls' := [(0, .ref v0), (1, .long v1), (3, .int (56 : Int32))]) rfl ?_
  exact jv_pc 3 rfl (s_Tape_add_1 hC hN _ _ _ _ _ hF)
set_option maxRecDepth 100000 in
set_option maxHeartbeats 4000000 in
theorem k_Ps_feed {n : Nat} {S : hm_S} {v0 : Nat} {v1 : Int64} {v3 : Int64} {v5 : Int64} {M : hm_M} {r : Int32} {M' : hm_M} (hF : f_Ps_feed S v0 v1 v3 v5 M = some (r, M')) : hm_KM yX11_feed cX11_feed 7 (some .int) 3 n S [.ref v0, .long v1, .long v3, .long v5] M (some (.int r)) M' := by
  refine hm_enter mm_Ps_feed (Nat.le_of_ble_eq_true rfl) (fun X hC => ?_)
  show hm_U X 0 [(0, .ref v0), (1, .long v1), (3, .long v3), (5, .long v5)] [] M _
  unfold f_Ps_feed at hF
  refine jv_aload_n hC 0 dX11_feed_0 rfl ?_
  obtain ⟨g1, hF⟩ := hg_some hF
  obtain ⟨g2, hF⟩ := hg_some hF
  refine jv_getR hC fl_X11_12 dX11_feed_1 rfl g1 g2 ?_
  obtain ⟨g3, hF⟩ := hg_some hF
  obtain ⟨g4, hF⟩ := hg_some hF
  refine jv_getR hC fl_X11_73 dX11_feed_4 rfl g3 g4 ?_
  refine jv_lload_n hC 1 dX11_feed_7 rfl ?_
  obtain ⟨g5, hF⟩ := hg_some hF
  obtain ⟨M7, c6, hF⟩ := hv_some hF
  refine jv_callV hC (st := []) [.long v1] (k_Tape_add c6) mm_Tape_add mi_Tape_add ml_X11_77 dX11_feed_8 g5 rfl (Nat.le_of_ble_eq_true rfl) rfl rfl (Nat.le_of_ble_eq_true rfl) ?_
  refine jv_nf 11 [] rfl rfl ?_
  refine jv_aload_n hC 0 dX11_feed_11 rfl ?_
  obtain ⟨g8, hF⟩ := hg_some hF
  refine jv_getR hC fl_X11_12 dX11_feed_12 rfl g1 g8 ?_
  obtain ⟨g9, hF⟩ := hg_some hF
  obtain ⟨g10, hF⟩ := hg_some hF
  refine jv_getR hC fl_X11_73 dX11_feed_15 rfl g9 g10 ?_
  refine jv_lload_n hC 2 dX11_feed_18 rfl ?_
  obtain ⟨g11, hF⟩ := hg_some hF
  obtain ⟨M13, c12, hF⟩ := hv_some hF
  refine jv_callV hC (st := []) [.long v3] (k_Tape_add c12) mm_Tape_add mi_Tape_add ml_X11_77 dX11_feed_19 g11 rfl (Nat.le_of_ble_eq_true rfl) rfl rfl (Nat.le_of_ble_eq_true rfl) ?_
  refine jv_nf 22 [] rfl rfl ?_
  refine jv_aload_n hC 0 dX11_feed_22 rfl ?_
  obtain ⟨g14, hF⟩ := hg_some hF
  refine jv_getR hC fl_X11_12 dX11_feed_23 rfl g1 g14 ?_
  obtain ⟨g15, hF⟩ := hg_some hF
  obtain ⟨g16, hF⟩ := hg_some hF
  refine jv_getR hC fl_X11_73 dX11_feed_26 rfl g15 g16 ?_
  refine jv_lload hC 3 dX11_feed_29 rfl ?_
  obtain ⟨g17, hF⟩ := hg_some hF
  obtain ⟨M19, c18, hF⟩ := hv_some hF
  refine jv_callV hC (st := []) [.long v5] (k_Tape_add c18) mm_Tape_add mi_Tape_add ml_X11_77 dX11_feed_31 g17 rfl (Nat.le_of_ble_eq_true rfl) rfl rfl (Nat.le_of_ble_eq_true rfl) ?_
  refine jv_nf 34 [] rfl rfl ?_
  refine jv_aload_n hC 0 dX11_feed_34 rfl ?_
  obtain ⟨g20, hF⟩ := hg_some hF
  refine jv_getR hC fl_X11_12 dX11_feed_35 rfl g1 g20 ?_
  obtain ⟨g21, hF⟩ := hg_some hF
  obtain ⟨g22, hF⟩ := hg_some hF
  refine jv_getR hC fl_X11_73 dX11_feed_38 rfl g21 g22 ?_
  obtain ⟨g23, hF⟩ := hg_some hF
  refine jv_getI hC fl_X11_83 dX11_feed_41 rfl g23 ?_
  obtain ⟨rfl, rfl⟩ := hr_some hF
  exact jv_iret hC dX11_feed_44
set_option maxRecDepth 100000 in
set_option maxHeartbeats 4000000 in
theorem k_Ps_gain {n : Nat} {S : hm_S} {v0 : Nat} {v1 : Int32} {v2 : Int32} {M : hm_M} {r : Int32} {M' : hm_M} (hF : f_Ps_gain S v0 v1 v2 M = some (r, M')) : hm_KM yX11_gain cX11_gain 3 (some .int) 8 n S [.ref v0, .int v1, .int v2] M (some (.int r)) M' := by
  refine hm_enter mm_Ps_gain (Nat.le_of_ble_eq_true rfl) (fun X hC => ?_)
  show hm_U X 0 [(0, .ref v0), (1, .int v1), (2, .int v2)] [] M _
  unfold f_Ps_gain at hF
  refine jv_aload_n hC 0 dX11_gain_0 rfl ?_
  refine jv_iload_n hC 1 dX11_gain_1 rfl ?_
  refine jv_iload_n hC 2 dX11_gain_2 rfl ?_
  obtain ⟨g1, hF⟩ := hg_some hF
  obtain ⟨r4, M3, c2, hF⟩ := hb_some hF
  refine jv_callV hC (st := []) [.int v1, .int v2] (k_Ps_canExchange c2) mm_Ps_canExchange mi_Ps_canExchange ml_X11_195 dX11_gain_3 g1 rfl (Nat.le_of_ble_eq_true rfl) rfl rfl (Nat.le_of_ble_eq_true rfl) ?_
  refine jv_nf 6 [.int r4] rfl rfl ?_
  refine jv_if_ne hC 11 dX11_gain_6 (by decide) (fun h5 => ?_) (fun h5 => ?_)
  · have hF := hi_neg h5 hF
    refine jv_aload_n hC 0 dX11_gain_11 rfl ?_
    obtain ⟨g6, hF⟩ := hg_some hF
    refine jv_getR hC fl_X11_40 dX11_gain_12 rfl g1 g6 ?_
    refine jv_aload_n hC 0 dX11_gain_15 rfl ?_
    obtain ⟨g7, hF⟩ := hg_some hF
    refine jv_getR hC fl_X11_19 dX11_gain_16 rfl g1 g7 ?_
    obtain ⟨g8, hF⟩ := hg_some hF
    obtain ⟨g9, hF⟩ := hg_some hF
    refine jv_getR hC fl_X11_98 dX11_gain_19 rfl g8 g9 ?_
    refine jv_aload_n hC 0 dX11_gain_22 rfl ?_
    obtain ⟨g10, hF⟩ := hg_some hF
    refine jv_getR hC fl_X11_26 dX11_gain_23 rfl g1 g10 ?_
    refine jv_pc 26 rfl ?_
    refine jv_aload_n hC 0 dX11_gain_26 rfl ?_
    obtain ⟨r13, M12, c11, hF⟩ := hb_some hF
    refine jv_callV hC (st := [.ref (M3.2.2 v0 2), .ref (M3.2.2 (M3.2.2 v0 1) 0), .ref (M3.2.2 v0 4)]) [] (k_Ps_yearNow c11) mm_Ps_yearNow mi_Ps_yearNow ml_X11_182 dX11_gain_27 g1 rfl (Nat.le_of_ble_eq_true rfl) rfl rfl (Nat.le_of_ble_eq_true rfl) ?_
    refine jv_nf 30 [.int r13, .ref (M3.2.2 v0 2), .ref (M3.2.2 (M3.2.2 v0 1) 0), .ref (M3.2.2 v0 4)] rfl rfl ?_
    refine jv_iload_n hC 1 dX11_gain_30 rfl ?_
    refine jv_iload_n hC 2 dX11_gain_31 rfl ?_
    obtain ⟨g14, hF⟩ := hg_some hF
    obtain ⟨r17, M16, c15, hF⟩ := hb_some hF
    refine jv_callV hC (st := []) [.ref (M3.2.2 (M3.2.2 v0 1) 0), .ref (M3.2.2 v0 2), .int r13, .int v1, .int v2] (k_Rents_gainOf c15) mm_Rents_gainOf mi_Rents_gainOf ml_X11_198 dX11_gain_32 g14 rfl (Nat.le_of_ble_eq_true rfl) rfl rfl (Nat.le_of_ble_eq_true rfl) ?_
    refine jv_nf 35 [.int r17] rfl rfl ?_
    obtain ⟨rfl, rfl⟩ := hr_some hF
    exact jv_iret hC dX11_gain_35
  · have hF := hi_pos h5 hF
    refine jv_iconst hC dX11_gain_9 c32_m1 ?_
    obtain ⟨rfl, rfl⟩ := hr_some hF
    exact jv_iret hC dX11_gain_10
set_option maxRecDepth 100000 in
set_option maxHeartbeats 4000000 in
theorem k_Ps_guild {n : Nat} {S : hm_S} {v0 : Nat} {v1 : Int32} {v2 : Int32} {M : hm_M} {r : Int32} {M' : hm_M} (hF : f_Ps_guild S v0 v1 v2 M = some (r, M')) : hm_KM yX11_guild cX11_guild 3 (some .int) 2 n S [.ref v0, .int v1, .int v2] M (some (.int r)) M' := by
  refine hm_enter mm_Ps_guild (Nat.le_of_ble_eq_true rfl) (fun X hC => ?_)
  show hm_U X 0 [(0, .ref v0), (1, .int v1), (2, .int v2)] [] M _
  unfold f_Ps_guild at hF
  refine jv_aload_n hC 0 dX11_guild_0 rfl ?_
  refine jv_iload_n hC 1 dX11_guild_1 rfl ?_
  obtain ⟨g1, hF⟩ := hg_some hF
  obtain ⟨r4, M3, c2, hF⟩ := hb_some hF
  refine jv_callV hC (st := []) [.int v1] (k_Ps_isGuild c2) mm_Ps_isGuild mi_Ps_isGuild ml_X11_109 dX11_guild_2 g1 rfl (Nat.le_of_ble_eq_true rfl) rfl rfl (Nat.le_of_ble_eq_true rfl) ?_
  refine jv_nf 5 [.int r4] rfl rfl ?_
  refine jv_if_ne hC 10 dX11_guild_5 (by decide) (fun h5 => ?_) (fun h5 => ?_)
  · have hF := hi_neg h5 hF
    refine jv_iload_n hC 2 dX11_guild_10 rfl ?_
    by_cases h6 : v2 = (0 : Int32)
    · have hF := hi_pos h6 hF
      refine jv_tableIn hC 36 dX11_guild_11 (by rw [h6]; decide) (by rw [h6]; decide) (by rw [h6]; rfl) (by decide) ?_
      refine jv_aload_n hC 0 dX11_guild_36 rfl ?_
      obtain ⟨g7, hF⟩ := hg_some hF
      refine jv_getR hC fl_X11_19 dX11_guild_37 rfl g1 g7 ?_
      obtain ⟨g8, hF⟩ := hg_some hF
      obtain ⟨g9, hF⟩ := hg_some hF
      refine jv_getR hC fl_X11_98 dX11_guild_40 rfl g8 g9 ?_
      obtain ⟨g10, hF⟩ := hg_some hF
      obtain ⟨g11, hF⟩ := hg_some hF
      refine jv_getR hC fl_X11_113 dX11_guild_43 rfl g10 g11 ?_
      refine jv_iload_n hC 1 dX11_guild_46 rfl ?_
      obtain ⟨g12, hF⟩ := hg_some hF
      obtain ⟨n13, sn13, in13⟩ := hm_ib_ok g12
      refine jv_iaload hC dX11_guild_47 sn13 in13 ?_
      obtain ⟨rfl, rfl⟩ := hr_some hF
      exact jv_iret hC dX11_guild_48
    have hF := hi_neg h6 hF
    by_cases h14 : v2 = (1 : Int32)
    · have hF := hi_pos h14 hF
      refine jv_tableIn hC 49 dX11_guild_11 (by rw [h14]; decide) (by rw [h14]; decide) (by rw [h14]; rfl) (by decide) ?_
      refine jv_aload_n hC 0 dX11_guild_49 rfl ?_
      obtain ⟨g15, hF⟩ := hg_some hF
      refine jv_getR hC fl_X11_19 dX11_guild_50 rfl g1 g15 ?_
      obtain ⟨g16, hF⟩ := hg_some hF
      obtain ⟨g17, hF⟩ := hg_some hF
      refine jv_getR hC fl_X11_98 dX11_guild_53 rfl g16 g17 ?_
      obtain ⟨g18, hF⟩ := hg_some hF
      obtain ⟨g19, hF⟩ := hg_some hF
      refine jv_getR hC fl_X11_119 dX11_guild_56 rfl g18 g19 ?_
      refine jv_iload_n hC 1 dX11_guild_59 rfl ?_
      obtain ⟨g20, hF⟩ := hg_some hF
      obtain ⟨n21, sn21, in21⟩ := hm_ib_ok g20
      refine jv_iaload hC dX11_guild_60 sn21 in21 ?_
      obtain ⟨rfl, rfl⟩ := hr_some hF
      exact jv_iret hC dX11_guild_61
    have hF := hi_neg h14 hF
    by_cases h22 : v2 = (2 : Int32)
    · have hF := hi_pos h22 hF
      refine jv_tableIn hC 62 dX11_guild_11 (by rw [h22]; decide) (by rw [h22]; decide) (by rw [h22]; rfl) (by decide) ?_
      refine jv_aload_n hC 0 dX11_guild_62 rfl ?_
      obtain ⟨g23, hF⟩ := hg_some hF
      refine jv_getR hC fl_X11_26 dX11_guild_63 rfl g1 g23 ?_
      refine jv_iload_n hC 1 dX11_guild_66 rfl ?_
      obtain ⟨g24, hF⟩ := hg_some hF
      obtain ⟨r27, M26, c25, hF⟩ := hb_some hF
      refine jv_callV hC (st := []) [.int v1] (k_Hold_panesOf c25) mm_Hold_panesOf mi_Hold_panesOf ml_X11_122 dX11_guild_67 g24 rfl (Nat.le_of_ble_eq_true rfl) rfl rfl (Nat.le_of_ble_eq_true rfl) ?_
      refine jv_nf 70 [.int r27] rfl rfl ?_
      obtain ⟨rfl, rfl⟩ := hr_some hF
      exact jv_iret hC dX11_guild_70
    have hF := hi_neg h22 hF
    refine jv_tableOut hC 71 dX11_guild_11 (by have := hm_out (c := 0) (by decide) h6; have := hm_out (c := 1) (by decide) h14; have := hm_out (c := 2) (by decide) h22; omega) (by decide) ?_
    refine jv_iconst hC dX11_guild_71 c32_m1 ?_
    obtain ⟨rfl, rfl⟩ := hr_some hF
    exact jv_iret hC dX11_guild_72
  · have hF := hi_pos h5 hF
    refine jv_iconst hC dX11_guild_8 c32_m1 ?_
    obtain ⟨rfl, rfl⟩ := hr_some hF
    exact jv_iret hC dX11_guild_9
set_option maxRecDepth 100000 in
set_option maxHeartbeats 4000000 in
theorem k_Ps_isStained {n : Nat} {S : hm_S} {v0 : Nat} {v1 : Int32} {v2 : Int32} {v3 : Int32} {v4 : Int32} {M : hm_M} {r : Int32} {M' : hm_M} (hF : f_Ps_isStained S v0 v1 v2 v3 v4 M = some (r, M')) : hm_KM yX11_isStained cX11_isStained 5 (some .boolean) 2 n S [.ref v0, .int v1, .int v2, .int v3, .int v4] M (some (.int r)) M' := by
  refine hm_enter mm_Ps_isStained (Nat.le_of_ble_eq_true rfl) (fun X hC => ?_)
  show hm_U X 0 [(0, .ref v0), (1, .int v1), (2, .int v2), (3, .int v3), (4, .int v4)] [] M _
  unfold f_Ps_isStained at hF
  refine jv_iload_n hC 1 dX11_isStained_0 rfl ?_
  refine jv_iload_n hC 2 dX11_isStained_1 rfl ?_
  obtain ⟨r3, M2, c1, hF⟩ := hb_some hF
  refine jv_callS hC (st := []) [.int v1, .int v2] (k_Ps_isTime c1) mm_Ps_isTime ms_Ps_isTime ml_X11_144 dX11_isStained_2 (Nat.le_of_ble_eq_true rfl) rfl rfl (Nat.le_of_ble_eq_true rfl) ?_
  refine jv_nf 5 [.int r3] rfl rfl ?_
  refine jv_if_eq hC 46 dX11_isStained_5 (by decide) (fun h4 => ?_) (fun h4 => ?_)
  · have hF := hi_pos h4 hF
    refine jv_iconst hC dX11_isStained_46 c32_0 ?_
    obtain ⟨rfl, rfl⟩ := hr_some hF
    exact jv_zret hC (by decide) dX11_isStained_47
  · have hF := hi_neg h4 hF
    refine jv_iload_n hC 3 dX11_isStained_8 rfl ?_
    refine jv_iconst hC dX11_isStained_9 c32_1 ?_
    refine jv_icmp_lt hC 46 dX11_isStained_10 (by decide) (fun h5 => ?_) (fun h5 => ?_)
    · have hF := hi_pos h5 hF
      refine jv_iconst hC dX11_isStained_46 c32_0 ?_
      obtain ⟨rfl, rfl⟩ := hr_some hF
      exact jv_zret hC (by decide) dX11_isStained_47
    · have hF := hi_neg h5 hF
      refine jv_iload_n hC 3 dX11_isStained_13 rfl ?_
      refine jv_bipush hC dX11_isStained_14 c8_6 ?_
      refine jv_icmp_gt hC 46 dX11_isStained_16 (by decide) (fun h6 => ?_) (fun h6 => ?_)
      · have hF := hi_pos h6 hF
        refine jv_iconst hC dX11_isStained_46 c32_0 ?_
        obtain ⟨rfl, rfl⟩ := hr_some hF
        exact jv_zret hC (by decide) dX11_isStained_47
      · have hF := hi_neg h6 hF
        refine jv_iload_n hC 2 dX11_isStained_19 rfl ?_
        refine jv_iload_n hC 3 dX11_isStained_20 rfl ?_
        refine jv_iadd hC dX11_isStained_21 ?_
        refine jv_bipush hC dX11_isStained_22 c8_24 ?_
        refine jv_icmp_gt hC 46 dX11_isStained_24 (by decide) (fun h7 => ?_) (fun h7 => ?_)
        · have hF := hi_pos h7 hF
          refine jv_iconst hC dX11_isStained_46 c32_0 ?_
          obtain ⟨rfl, rfl⟩ := hr_some hF
          exact jv_zret hC (by decide) dX11_isStained_47
        · have hF := hi_neg h7 hF
          refine jv_iload hC 4 dX11_isStained_27 rfl ?_
          refine jv_if_lt hC 46 dX11_isStained_29 (by decide) (fun h8 => ?_) (fun h8 => ?_)
          · have hF := hi_pos h8 hF
            refine jv_iconst hC dX11_isStained_46 c32_0 ?_
            obtain ⟨rfl, rfl⟩ := hr_some hF
            exact jv_zret hC (by decide) dX11_isStained_47
          · have hF := hi_neg h8 hF
            refine jv_iload hC 4 dX11_isStained_32 rfl ?_
            refine jv_iconst hC dX11_isStained_34 c32_1 ?_
            refine jv_iconst hC dX11_isStained_35 c32_3 ?_
            refine jv_iload_n hC 3 dX11_isStained_36 rfl ?_
            refine jv_imul hC dX11_isStained_37 ?_
            refine jv_ishl hC dX11_isStained_38 ?_
            refine jv_icmp_ge hC 46 dX11_isStained_39 (by decide) (fun h9 => ?_) (fun h9 => ?_)
            · have hF := hi_pos h9 hF
              refine jv_iconst hC dX11_isStained_46 c32_0 ?_
              obtain ⟨rfl, rfl⟩ := hr_some hF
              exact jv_zret hC (by decide) dX11_isStained_47
            · have hF := hi_neg h9 hF
              refine jv_iconst hC dX11_isStained_42 c32_1 ?_
              refine jv_goto hC 47 dX11_isStained_43 (by decide) ?_
              obtain ⟨rfl, rfl⟩ := hr_some hF
              exact jv_zret hC (by decide) dX11_isStained_47
set_option maxRecDepth 100000 in
set_option maxHeartbeats 4000000 in
theorem t_Hold_copy_2 {X : hm_X} {n : Nat} {S : hm_S} (hC : hm_C X RX2 cX2_copy 3 none 1 n S) {k52 : Nat → Nat → Int32 → hm_M → Option hm_M} (hk52 : ∀ (v0 : Nat) (v1 : Nat) (v2 : Int32)  (M : hm_M) (M' : hm_M), k52 v0 v1 v2 M = some M' → hm_U X 52 [(0, .ref v0), (1, .ref v1), (2, .int v2)] [] M (hm_Q X none M')) {v0 : Nat} {v1 : Nat} {v2 : Int32} {M : hm_M} {M' : hm_M} (hF : b_Hold_copy_2 S k52 v0 v1 v2 M = some M') : hm_U X 52 [(0, .ref v0), (1, .ref v1), (2, .int v2)] [] M (hm_Q X none M') := by
  unfold b_Hold_copy_2 at hF
  refine jv_iload_n hC 2 dX2_copy_52 rfl ?_
  refine jv_bipush hC dX2_copy_53 c8_8 ?_
  refine jv_icmp_ge hC 88 dX2_copy_55 (by decide) (fun h1 => ?_) (fun h1 => ?_)
  · have hF := hi_pos h1 hF
    obtain rfl := hr_somev hF
    exact jv_vret hC dX2_copy_88
  · have hF := hi_neg h1 hF
    refine jv_aload_n hC 0 dX2_copy_58 rfl ?_
    obtain ⟨g2, hF⟩ := hg_some hF
    obtain ⟨g3, hF⟩ := hg_some hF
    refine jv_getR hC fl_X2_22 dX2_copy_59 rfl g2 g3 ?_
    refine jv_iload_n hC 2 dX2_copy_62 rfl ?_
    refine jv_aload_n hC 1 dX2_copy_63 rfl ?_
    obtain ⟨g4, hF⟩ := hg_some hF
    obtain ⟨g5, hF⟩ := hg_some hF
    refine jv_getR hC fl_X2_22 dX2_copy_64 rfl g4 g5 ?_
    refine jv_iload_n hC 2 dX2_copy_67 rfl ?_
    obtain ⟨g6, hF⟩ := hg_some hF
    obtain ⟨n7, sn7, in7⟩ := hm_ib_ok g6
    refine jv_iaload hC dX2_copy_68 sn7 in7 ?_
    refine jv_pc 69 rfl ?_
    obtain ⟨g8, hF⟩ := hg_some hF
    obtain ⟨n9, sn9, in9⟩ := hm_ib_ok g8
    refine jv_iastore hC dX2_copy_69 sn9 in9 ?_
    obtain ⟨M10, e11, hF⟩ := hl_some hF
    refine jv_mem e11 ?_
    refine jv_aload_n hC 0 dX2_copy_70 rfl ?_
    obtain ⟨g12, hF⟩ := hg_some hF
    refine jv_getR hC fl_X2_25 dX2_copy_71 rfl g2 g12 ?_
    refine jv_iload_n hC 2 dX2_copy_74 rfl ?_
    refine jv_aload_n hC 1 dX2_copy_75 rfl ?_
    obtain ⟨g13, hF⟩ := hg_some hF
    refine jv_getR hC fl_X2_25 dX2_copy_76 rfl g4 g13 ?_
    refine jv_iload_n hC 2 dX2_copy_79 rfl ?_
    obtain ⟨g14, hF⟩ := hg_some hF
    obtain ⟨n15, sn15, in15⟩ := hm_ib_ok g14
    refine jv_iaload hC dX2_copy_80 sn15 in15 ?_
    refine jv_pc 81 rfl ?_
    obtain ⟨g16, hF⟩ := hg_some hF
    obtain ⟨n17, sn17, in17⟩ := hm_ib_ok g16
    refine jv_iastore hC dX2_copy_81 sn17 in17 ?_
    obtain ⟨M18, e19, hF⟩ := hl_some hF
    refine jv_mem e19 ?_
    refine jv_iinc hC 2 [(2, .int (v2 + (1 : Int32))), (0, .ref v0), (1, .ref v1)] dX2_copy_82 rfl c32_1 (by decide) rfl ?_
    refine jv_goto hC 52 dX2_copy_85 (by decide) ?_
    refine jv_sub [1, 2, 0] (ls' := [(0, .ref v0), (1, .ref v1), (2, .int (v2 + (1 : Int32)))]) rfl ?_
    exact jv_pc 52 rfl (hk52 _ _ _ _ _ hF)
theorem s_Hold_copy_2 {X : hm_X} {n : Nat} {S : hm_S} (hC : hm_C X RX2 cX2_copy 3 none 1 n S) : ∀ (q : Nat) (v0 : Nat) (v1 : Nat) (v2 : Int32) (M : hm_M) (M' : hm_M), f_Hold_copy_2 S  q v0 v1 v2 M = some M' → hm_U X 52 [(0, .ref v0), (1, .ref v1), (2, .int v2)] [] M (hm_Q X none M') := by
  intro q
  induction q with
  | zero => intro v0 v1 v2 M M' hF; cases hF
  | succ q ih => intro v0 v1 v2 M M' hF; exact t_Hold_copy_2 hC ih hF
set_option maxRecDepth 100000 in
set_option maxHeartbeats 4000000 in
theorem t_Hold_copy_1 {X : hm_X} {n : Nat} {S : hm_S} (hC : hm_C X RX2 cX2_copy 3 none 1 n S) {k26 : Nat → Nat → Int32 → hm_M → Option hm_M} (hk26 : ∀ (v0 : Nat) (v1 : Nat) (v2 : Int32)  (M : hm_M) (M' : hm_M), k26 v0 v1 v2 M = some M' → hm_U X 26 [(0, .ref v0), (1, .ref v1), (2, .int v2)] [] M (hm_Q X none M')) {v0 : Nat} {v1 : Nat} {v2 : Int32} {M : hm_M} {M' : hm_M} (hF : b_Hold_copy_1 S k26 v0 v1 v2 M = some M') : hm_U X 26 [(0, .ref v0), (1, .ref v1), (2, .int v2)] [] M (hm_Q X none M') := by
  unfold b_Hold_copy_1 at hF
  refine jv_iload_n hC 2 dX2_copy_26 rfl ?_
  refine jv_bipush hC dX2_copy_27 c8_12 ?_
  refine jv_icmp_ge hC 50 dX2_copy_29 (by decide) (fun h1 => ?_) (fun h1 => ?_)
  · have hF := hi_pos h1 hF
    refine jv_iconst hC dX2_copy_50 c32_0 ?_
    refine jv_istore_n hC [(2, .int (0 : Int32)), (0, .ref v0), (1, .ref v1)] dX2_copy_51 (by decide) rfl ?_
    refine jv_sub [1, 2, 0] (ls' := [(0, .ref v0), (1, .ref v1), (2, .int (0 : Int32))]) rfl ?_
    exact jv_pc 52 rfl (s_Hold_copy_2 hC hN _ _ _ _ _ hF)
  · have hF := hi_neg h1 hF
    refine jv_aload_n hC 0 dX2_copy_32 rfl ?_
    obtain ⟨g2, hF⟩ := hg_some hF
    obtain ⟨g3, hF⟩ := hg_some hF
    refine jv_getR hC fl_X2_9 dX2_copy_33 rfl g2 g3 ?_
    refine jv_iload_n hC 2 dX2_copy_36 rfl ?_
    refine jv_aload_n hC 1 dX2_copy_37 rfl ?_
    obtain ⟨g4, hF⟩ := hg_some hF
    obtain ⟨g5, hF⟩ := hg_some hF
    refine jv_getR hC fl_X2_9 dX2_copy_38 rfl g4 g5 ?_
    refine jv_iload_n hC 2 dX2_copy_41 rfl ?_
    obtain ⟨g6, hF⟩ := hg_some hF
    obtain ⟨n7, sn7, in7⟩ := hm_ib_ok g6
    refine jv_iaload hC dX2_copy_42 sn7 in7 ?_
    refine jv_pc 43 rfl ?_
    obtain ⟨g8, hF⟩ := hg_some hF
    obtain ⟨n9, sn9, in9⟩ := hm_ib_ok g8
    refine jv_iastore hC dX2_copy_43 sn9 in9 ?_
    obtain ⟨M10, e11, hF⟩ := hl_some hF
    refine jv_mem e11 ?_
    refine jv_iinc hC 2 [(2, .int (v2 + (1 : Int32))), (0, .ref v0), (1, .ref v1)] dX2_copy_44 rfl c32_1 (by decide) rfl ?_
    refine jv_goto hC 26 dX2_copy_47 (by decide) ?_
    refine jv_sub [1, 2, 0] (ls' := [(0, .ref v0), (1, .ref v1), (2, .int (v2 + (1 : Int32)))]) rfl ?_
    exact jv_pc 26 rfl (hk26 _ _ _ _ _ hF)
theorem s_Hold_copy_1 {X : hm_X} {n : Nat} {S : hm_S} (hC : hm_C X RX2 cX2_copy 3 none 1 n S) : ∀ (q : Nat) (v0 : Nat) (v1 : Nat) (v2 : Int32) (M : hm_M) (M' : hm_M), f_Hold_copy_1 S  q v0 v1 v2 M = some M' → hm_U X 26 [(0, .ref v0), (1, .ref v1), (2, .int v2)] [] M (hm_Q X none M') := by
  intro q
  induction q with
  | zero => intro v0 v1 v2 M M' hF; cases hF
  | succ q ih => intro v0 v1 v2 M M' hF; exact t_Hold_copy_1 hC ih hF
set_option maxRecDepth 100000 in
set_option maxHeartbeats 4000000 in
theorem k_Hold_copy {n : Nat} {S : hm_S} {v0 : Nat} {v1 : Nat} {M : hm_M} {M' : hm_M} (hF : f_Hold_copy S v0 v1 M = some M') : hm_KM yX2_copy cX2_copy 3 none 1 n S [.ref v0, .ref v1] M none M' := by
  refine hm_enter mm_Hold_copy (Nat.le_of_ble_eq_true rfl) (fun X hC => ?_)
  show hm_U X 0 [(0, .ref v0), (1, .ref v1)] [] M _
  unfold f_Hold_copy at hF
  refine jv_aload_n hC 0 dX2_copy_0 rfl ?_
  refine jv_aload_n hC 1 dX2_copy_1 rfl ?_
  obtain ⟨g1, hF⟩ := hg_some hF
  refine jv_getI hC fl_X2_28 dX2_copy_2 rfl g1 ?_
  obtain ⟨g2, hF⟩ := hg_some hF
  refine jv_putI hC fl_X2_28 dX2_copy_5 rfl rfl rfl g2 ?_
  obtain ⟨M3, e4, hF⟩ := hl_some hF
  refine jv_mem e4 ?_
  refine jv_aload_n hC 0 dX2_copy_8 rfl ?_
  refine jv_aload_n hC 1 dX2_copy_9 rfl ?_
  refine jv_getI hC fl_X2_15 dX2_copy_10 rfl g1 ?_
  refine jv_pc 13 rfl ?_
  refine jv_putI hC fl_X2_15 dX2_copy_13 rfl rfl rfl g2 ?_
  obtain ⟨M5, e6, hF⟩ := hl_some hF
  refine jv_mem e6 ?_
  refine jv_aload_n hC 0 dX2_copy_16 rfl ?_
  refine jv_aload_n hC 1 dX2_copy_17 rfl ?_
  refine jv_getI hC fl_X2_19 dX2_copy_18 rfl g1 ?_
  refine jv_putI hC fl_X2_19 dX2_copy_21 rfl rfl rfl g2 ?_
  obtain ⟨M7, e8, hF⟩ := hl_some hF
  refine jv_mem e8 ?_
  refine jv_iconst hC dX2_copy_24 c32_0 ?_
  refine jv_istore_n hC [(2, .int (0 : Int32)), (0, .ref v0), (1, .ref v1)] dX2_copy_25 (by decide) rfl ?_
  refine jv_sub [1, 2, 0] (ls' := [(0, .ref v0), (1, .ref v1), (2, .int (0 : Int32))]) rfl ?_
  exact jv_pc 26 rfl (s_Hold_copy_1 hC hN _ _ _ _ _ hF)
set_option maxRecDepth 100000 in
set_option maxHeartbeats 4000000 in
theorem k_Ps_mark {n : Nat} {S : hm_S} {v0 : Nat} {v1 : Int32} {v2 : Int32} {M : hm_M} {r : Int32} {M' : hm_M} (hF : f_Ps_mark S v0 v1 v2 M = some (r, M')) : hm_KM yX11_mark cX11_mark 3 (some .boolean) 2 n S [.ref v0, .int v1, .int v2] M (some (.int r)) M' := by
  refine hm_enter mm_Ps_mark (Nat.le_of_ble_eq_true rfl) (fun X hC => ?_)
  show hm_U X 0 [(0, .ref v0), (1, .int v1), (2, .int v2)] [] M _
  unfold f_Ps_mark at hF
  refine jv_iload_n hC 1 dX11_mark_0 rfl ?_
  refine jv_if_lt hC 9 dX11_mark_1 (by decide) (fun h1 => ?_) (fun h1 => ?_)
  · have hF := hi_pos h1 hF
    refine jv_iconst hC dX11_mark_9 c32_0 ?_
    obtain ⟨rfl, rfl⟩ := hr_some hF
    exact jv_zret hC (by decide) dX11_mark_10
  · have hF := hi_neg h1 hF
    refine jv_iload_n hC 1 dX11_mark_4 rfl ?_
    refine jv_iconst hC dX11_mark_5 c32_4 ?_
    refine jv_icmp_lt hC 11 dX11_mark_6 (by decide) (fun h2 => ?_) (fun h2 => ?_)
    · have hF := hi_pos h2 hF
      refine jv_iload_n hC 2 dX11_mark_11 rfl ?_
      refine jv_if_ne hC 42 dX11_mark_12 (by decide) (fun h3 => ?_) (fun h3 => ?_)
      · have hF := hi_neg h3 hF
        refine jv_aload_n hC 0 dX11_mark_42 rfl ?_
        obtain ⟨g4, hF⟩ := hg_some hF
        refine jv_getI hC fl_X11_69 dX11_mark_43 rfl g4 ?_
        refine jv_iload_n hC 1 dX11_mark_46 rfl ?_
        refine jv_ishr hC dX11_mark_47 ?_
        refine jv_iconst hC dX11_mark_48 c32_1 ?_
        refine jv_iand hC dX11_mark_49 ?_
        refine jv_if_ne hC 55 dX11_mark_50 (by decide) (fun h5 => ?_) (fun h5 => ?_)
        · have hF := hi_neg h5 hF
          refine jv_aload_n hC 0 dX11_mark_55 rfl ?_
          obtain ⟨g6, hF⟩ := hg_some hF
          refine jv_getR hC fl_X11_26 dX11_mark_56 rfl g4 g6 ?_
          refine jv_aload_n hC 0 dX11_mark_59 rfl ?_
          obtain ⟨g7, hF⟩ := hg_some hF
          refine jv_getR hC fl_X11_65 dX11_mark_60 rfl g4 g7 ?_
          refine jv_iload_n hC 1 dX11_mark_63 rfl ?_
          obtain ⟨g8, hF⟩ := hg_some hF
          obtain ⟨n9, sn9, in9⟩ := hm_ib_ok g8
          obtain ⟨g10, hF⟩ := hg_some hF
          refine jv_aaload hC dX11_mark_64 sn9 in9 g10 ?_
          obtain ⟨g11, hF⟩ := hg_some hF
          obtain ⟨M13, c12, hF⟩ := hv_some hF
          refine jv_callV hC (st := []) [.ref (M.2.2 (M.2.2 v0 8) v1.toNatClampNeg)] (k_Hold_copy c12) mm_Hold_copy mi_Hold_copy ml_X11_284 dX11_mark_65 g11 rfl (Nat.le_of_ble_eq_true rfl) rfl rfl (Nat.le_of_ble_eq_true rfl) ?_
          refine jv_nf 68 [] rfl rfl ?_
          refine jv_aload_n hC 0 dX11_mark_68 rfl ?_
          obtain ⟨g14, hF⟩ := hg_some hF
          refine jv_getR hC fl_X11_33 dX11_mark_69 rfl g4 g14 ?_
          obtain ⟨g15, hF⟩ := hg_some hF
          obtain ⟨M17, c16, hF⟩ := hv_some hF
          refine jv_callV hC (st := []) [] (k_History_forget c16) mm_History_forget mi_History_forget ml_X11_105 dX11_mark_72 g15 rfl (Nat.le_of_ble_eq_true rfl) rfl rfl (Nat.le_of_ble_eq_true rfl) ?_
          refine jv_nf 75 [] rfl rfl ?_
          refine jv_iconst hC dX11_mark_75 c32_1 ?_
          obtain ⟨rfl, rfl⟩ := hr_some hF
          exact jv_zret hC (by decide) dX11_mark_76
        · have hF := hi_pos h5 hF
          refine jv_iconst hC dX11_mark_53 c32_0 ?_
          obtain ⟨rfl, rfl⟩ := hr_some hF
          exact jv_zret hC (by decide) dX11_mark_54
      · have hF := hi_pos h3 hF
        refine jv_aload_n hC 0 dX11_mark_15 rfl ?_
        obtain ⟨g18, hF⟩ := hg_some hF
        obtain ⟨g19, hF⟩ := hg_some hF
        refine jv_getR hC fl_X11_65 dX11_mark_16 rfl g18 g19 ?_
        refine jv_iload_n hC 1 dX11_mark_19 rfl ?_
        obtain ⟨g20, hF⟩ := hg_some hF
        obtain ⟨n21, sn21, in21⟩ := hm_ib_ok g20
        obtain ⟨g22, hF⟩ := hg_some hF
        refine jv_aaload hC dX11_mark_20 sn21 in21 g22 ?_
        refine jv_aload_n hC 0 dX11_mark_21 rfl ?_
        obtain ⟨g23, hF⟩ := hg_some hF
        refine jv_getR hC fl_X11_26 dX11_mark_22 rfl g18 g23 ?_
        obtain ⟨g24, hF⟩ := hg_some hF
        obtain ⟨M26, c25, hF⟩ := hv_some hF
        refine jv_callV hC (st := []) [.ref (M.2.2 v0 2)] (k_Hold_copy c25) mm_Hold_copy mi_Hold_copy ml_X11_284 dX11_mark_25 g24 rfl (Nat.le_of_ble_eq_true rfl) rfl rfl (Nat.le_of_ble_eq_true rfl) ?_
        refine jv_nf 28 [] rfl rfl ?_
        refine jv_aload_n hC 0 dX11_mark_28 rfl ?_
        refine jv_dup hC dX11_mark_29 rfl ?_
        refine jv_getI hC fl_X11_69 dX11_mark_30 rfl g18 ?_
        refine jv_iconst hC dX11_mark_33 c32_1 ?_
        refine jv_iload_n hC 1 dX11_mark_34 rfl ?_
        refine jv_ishl hC dX11_mark_35 ?_
        refine jv_ior hC dX11_mark_36 ?_
        refine jv_pc 37 rfl ?_
        refine jv_putI hC fl_X11_69 dX11_mark_37 rfl rfl rfl g18 ?_
        obtain ⟨M27, e28, hF⟩ := hl_some hF
        refine jv_mem e28 ?_
        refine jv_iconst hC dX11_mark_40 c32_1 ?_
        obtain ⟨rfl, rfl⟩ := hr_some hF
        exact jv_zret hC (by decide) dX11_mark_41
    · have hF := hi_neg h2 hF
      refine jv_iconst hC dX11_mark_9 c32_0 ?_
      obtain ⟨rfl, rfl⟩ := hr_some hF
      exact jv_zret hC (by decide) dX11_mark_10
set_option maxRecDepth 100000 in
set_option maxHeartbeats 4000000 in
theorem k_Walk_passes {n : Nat} {S : hm_S} {v0 : Nat} {v1 : Int32} {M : hm_M} {r : Int32} {M' : hm_M} (hF : f_Walk_passes S v0 v1 M = some (r, M')) : hm_KM yX9_passes cX9_passes 2 (some .boolean) 1 n S [.ref v0, .int v1] M (some (.int r)) M' := by
  refine hm_enter mm_Walk_passes (Nat.le_of_ble_eq_true rfl) (fun X hC => ?_)
  show hm_U X 0 [(0, .ref v0), (1, .int v1)] [] M _
  unfold f_Walk_passes at hF
  refine jv_aload_n hC 0 dX9_passes_0 rfl ?_
  obtain ⟨g1, hF⟩ := hg_some hF
  obtain ⟨g2, hF⟩ := hg_some hF
  refine jv_getR hC fl_X9_9 dX9_passes_1 rfl g1 g2 ?_
  refine jv_iload_n hC 1 dX9_passes_4 rfl ?_
  obtain ⟨g3, hF⟩ := hg_some hF
  obtain ⟨n4, sn4, in4⟩ := hm_ib_ok g3
  refine jv_iaload hC dX9_passes_5 sn4 in4 ?_
  refine jv_if_le hC 22 dX9_passes_6 (by decide) (fun h5 => ?_) (fun h5 => ?_)
  · have hF := hi_pos h5 hF
    refine jv_iconst hC dX9_passes_22 c32_0 ?_
    obtain ⟨rfl, rfl⟩ := hr_some hF
    exact jv_zret hC (by decide) dX9_passes_23
  · have hF := hi_neg h5 hF
    refine jv_aload_n hC 0 dX9_passes_9 rfl ?_
    obtain ⟨g6, hF⟩ := hg_some hF
    refine jv_getR hC fl_X9_15 dX9_passes_10 rfl g1 g6 ?_
    refine jv_iload_n hC 1 dX9_passes_13 rfl ?_
    obtain ⟨g7, hF⟩ := hg_some hF
    obtain ⟨n8, sn8, in8⟩ := hm_ib_ok g7
    refine jv_iaload hC dX9_passes_14 sn8 in8 ?_
    refine jv_if_le hC 22 dX9_passes_15 (by decide) (fun h9 => ?_) (fun h9 => ?_)
    · have hF := hi_pos h9 hF
      refine jv_iconst hC dX9_passes_22 c32_0 ?_
      obtain ⟨rfl, rfl⟩ := hr_some hF
      exact jv_zret hC (by decide) dX9_passes_23
    · have hF := hi_neg h9 hF
      refine jv_iconst hC dX9_passes_18 c32_1 ?_
      refine jv_goto hC 23 dX9_passes_19 (by decide) ?_
      obtain ⟨rfl, rfl⟩ := hr_some hF
      exact jv_zret hC (by decide) dX9_passes_23
set_option maxRecDepth 100000 in
set_option maxHeartbeats 4000000 in
theorem t_Hold_ownersOf_1 {X : hm_X} {n : Nat} {S : hm_S} (hC : hm_C X RX2 cX2_ownersOf 4 (some .int) 1 n S) {k4 : Nat → Int32 → Int32 → Int32 → hm_M → Option (Int32 × hm_M)} (hk4 : ∀ (v0 : Nat) (v1 : Int32) (v2 : Int32) (v3 : Int32)  (M : hm_M) (r : Int32) (M' : hm_M), k4 v0 v1 v2 v3 M = some (r, M') → hm_U X 4 [(0, .ref v0), (1, .int v1), (2, .int v2), (3, .int v3)] [] M (hm_Q X (some (.int r)) M')) {v0 : Nat} {v1 : Int32} {v2 : Int32} {v3 : Int32} {M : hm_M} {r : Int32} {M' : hm_M} (hF : b_Hold_ownersOf_1 S k4 v0 v1 v2 v3 M = some (r, M')) : hm_U X 4 [(0, .ref v0), (1, .int v1), (2, .int v2), (3, .int v3)] [] M (hm_Q X (some (.int r)) M') := by
  unfold b_Hold_ownersOf_1 at hF
  refine jv_iload_n hC 3 dX2_ownersOf_4 rfl ?_
  refine jv_aload_n hC 0 dX2_ownersOf_5 rfl ?_
  obtain ⟨g1, hF⟩ := hg_some hF
  refine jv_getI hC fl_X2_28 dX2_ownersOf_6 rfl g1 ?_
  refine jv_icmp_ge hC 44 dX2_ownersOf_9 (by decide) (fun h2 => ?_) (fun h2 => ?_)
  · have hF := hi_pos h2 hF
    refine jv_iload_n hC 2 dX2_ownersOf_44 rfl ?_
    obtain ⟨rfl, rfl⟩ := hr_some hF
    exact jv_iret hC dX2_ownersOf_45
  · have hF := hi_neg h2 hF
    refine jv_iload_n hC 3 dX2_ownersOf_12 rfl ?_
    refine jv_bipush hC dX2_ownersOf_13 c8_12 ?_
    refine jv_icmp_ge hC 44 dX2_ownersOf_15 (by decide) (fun h3 => ?_) (fun h3 => ?_)
    · have hF := hi_pos h3 hF
      refine jv_iload_n hC 2 dX2_ownersOf_44 rfl ?_
      obtain ⟨rfl, rfl⟩ := hr_some hF
      exact jv_iret hC dX2_ownersOf_45
    · have hF := hi_neg h3 hF
      refine jv_iload_n hC 1 dX2_ownersOf_18 rfl ?_
      refine jv_iload_n hC 3 dX2_ownersOf_19 rfl ?_
      refine jv_ishr hC dX2_ownersOf_20 ?_
      refine jv_iconst hC dX2_ownersOf_21 c32_1 ?_
      refine jv_iand hC dX2_ownersOf_22 ?_
      refine jv_iconst hC dX2_ownersOf_23 c32_1 ?_
      refine jv_icmp_ne hC 38 dX2_ownersOf_24 (by decide) (fun h4 => ?_) (fun h4 => ?_)
      · have hF := hi_neg h4 hF
        refine jv_iinc hC 3 [(3, .int (v3 + (1 : Int32))), (0, .ref v0), (1, .int v1), (2, .int v2)] dX2_ownersOf_38 rfl c32_1 (by decide) rfl ?_
        refine jv_goto hC 4 dX2_ownersOf_41 (by decide) ?_
        refine jv_sub [1, 2, 3, 0] (ls' := [(0, .ref v0), (1, .int v1), (2, .int v2), (3, .int (v3 + (1 : Int32)))]) rfl ?_
        exact jv_pc 4 rfl (hk4 _ _ _ _ _ _ _ hF)
      · have hF := hi_pos h4 hF
        refine jv_iload_n hC 2 dX2_ownersOf_27 rfl ?_
        refine jv_iconst hC dX2_ownersOf_28 c32_1 ?_
        refine jv_aload_n hC 0 dX2_ownersOf_29 rfl ?_
        obtain ⟨g5, hF⟩ := hg_some hF
        refine jv_getR hC fl_X2_9 dX2_ownersOf_30 rfl g1 g5 ?_
        refine jv_iload_n hC 3 dX2_ownersOf_33 rfl ?_
        obtain ⟨g6, hF⟩ := hg_some hF
        obtain ⟨n7, sn7, in7⟩ := hm_ib_ok g6
        refine jv_iaload hC dX2_ownersOf_34 sn7 in7 ?_
        refine jv_ishl hC dX2_ownersOf_35 ?_
        refine jv_pc 36 rfl ?_
        refine jv_ior hC dX2_ownersOf_36 ?_
        obtain ⟨x8, e9, hF⟩ := hl_some hF
        refine jv_topI e9 ?_
        refine jv_istore_n hC [(2, .int x8), (0, .ref v0), (1, .int v1), (3, .int v3)] dX2_ownersOf_37 (by decide) rfl ?_
        refine jv_iinc hC 3 [(3, .int (v3 + (1 : Int32))), (2, .int x8), (0, .ref v0), (1, .int v1)] dX2_ownersOf_38 rfl c32_1 (by decide) rfl ?_
        refine jv_goto hC 4 dX2_ownersOf_41 (by decide) ?_
        refine jv_sub [2, 3, 1, 0] (ls' := [(0, .ref v0), (1, .int v1), (2, .int x8), (3, .int (v3 + (1 : Int32)))]) rfl ?_
        exact jv_pc 4 rfl (hk4 _ _ _ _ _ _ _ hF)
theorem s_Hold_ownersOf_1 {X : hm_X} {n : Nat} {S : hm_S} (hC : hm_C X RX2 cX2_ownersOf 4 (some .int) 1 n S) : ∀ (q : Nat) (v0 : Nat) (v1 : Int32) (v2 : Int32) (v3 : Int32) (M : hm_M) (r : Int32) (M' : hm_M), f_Hold_ownersOf_1 S  q v0 v1 v2 v3 M = some (r, M') → hm_U X 4 [(0, .ref v0), (1, .int v1), (2, .int v2), (3, .int v3)] [] M (hm_Q X (some (.int r)) M') := by
  intro q
  induction q with
  | zero => intro v0 v1 v2 v3 M r M' hF; cases hF
  | succ q ih => intro v0 v1 v2 v3 M r M' hF; exact t_Hold_ownersOf_1 hC ih hF
set_option maxRecDepth 100000 in
set_option maxHeartbeats 4000000 in
theorem k_Hold_ownersOf {n : Nat} {S : hm_S} {v0 : Nat} {v1 : Int32} {M : hm_M} {r : Int32} {M' : hm_M} (hF : f_Hold_ownersOf S v0 v1 M = some (r, M')) : hm_KM yX2_ownersOf cX2_ownersOf 4 (some .int) 1 n S [.ref v0, .int v1] M (some (.int r)) M' := by
  refine hm_enter mm_Hold_ownersOf (Nat.le_of_ble_eq_true rfl) (fun X hC => ?_)
  show hm_U X 0 [(0, .ref v0), (1, .int v1)] [] M _
  unfold f_Hold_ownersOf at hF
  refine jv_iconst hC dX2_ownersOf_0 c32_0 ?_
  refine jv_istore_n hC [(2, .int (0 : Int32)), (0, .ref v0), (1, .int v1)] dX2_ownersOf_1 (by decide) rfl ?_
  refine jv_iconst hC dX2_ownersOf_2 c32_0 ?_
  refine jv_istore_n hC [(3, .int (0 : Int32)), (2, .int (0 : Int32)), (0, .ref v0), (1, .int v1)] dX2_ownersOf_3 (by decide) rfl ?_
  refine jv_sub [2, 3, 1, 0] (ls' := [(0, .ref v0), (1, .int v1), (2, .int (0 : Int32)), (3, .int (0 : Int32))]) rfl ?_
  exact jv_pc 4 rfl (s_Hold_ownersOf_1 hC hN _ _ _ _ _ _ _ hF)
set_option maxRecDepth 100000 in
set_option maxHeartbeats 4000000 in
theorem t_Ps_ownersOnAll_1 {X : hm_X} {n : Nat} {S : hm_S} (hC : hm_C X RX11 cX11_ownersOnAll 3 (some .int) 2 n S) {k4 : Nat → Int32 → Int32 → hm_M → Option (Int32 × hm_M)} (hk4 : ∀ (v0 : Nat) (v1 : Int32) (v2 : Int32)  (M : hm_M) (r : Int32) (M' : hm_M), k4 v0 v1 v2 M = some (r, M') → hm_U X 4 [(0, .ref v0), (1, .int v1), (2, .int v2)] [] M (hm_Q X (some (.int r)) M')) {v0 : Nat} {v1 : Int32} {v2 : Int32} {M : hm_M} {r : Int32} {M' : hm_M} (hF : b_Ps_ownersOnAll_1 S k4 v0 v1 v2 M = some (r, M')) : hm_U X 4 [(0, .ref v0), (1, .int v1), (2, .int v2)] [] M (hm_Q X (some (.int r)) M') := by
  unfold b_Ps_ownersOnAll_1 at hF
  refine jv_iload_n hC 2 dX11_ownersOnAll_4 rfl ?_
  refine jv_bipush hC dX11_ownersOnAll_5 c8_64 ?_
  refine jv_icmp_ge hC 52 dX11_ownersOnAll_7 (by decide) (fun h1 => ?_) (fun h1 => ?_)
  · have hF := hi_pos h1 hF
    refine jv_iload_n hC 1 dX11_ownersOnAll_52 rfl ?_
    obtain ⟨rfl, rfl⟩ := hr_some hF
    exact jv_iret hC dX11_ownersOnAll_53
  · have hF := hi_neg h1 hF
    refine jv_aload_n hC 0 dX11_ownersOnAll_10 rfl ?_
    obtain ⟨g2, hF⟩ := hg_some hF
    obtain ⟨g3, hF⟩ := hg_some hF
    refine jv_getR hC fl_X11_61 dX11_ownersOnAll_11 rfl g2 g3 ?_
    refine jv_iload_n hC 2 dX11_ownersOnAll_14 rfl ?_
    obtain ⟨g4, hF⟩ := hg_some hF
    obtain ⟨r7, M6, c5, hF⟩ := hb_some hF
    refine jv_callV hC (st := []) [.int v2] (k_Walk_passes c5) mm_Walk_passes mi_Walk_passes ml_X11_322 dX11_ownersOnAll_15 g4 rfl (Nat.le_of_ble_eq_true rfl) rfl rfl (Nat.le_of_ble_eq_true rfl) ?_
    refine jv_nf 18 [.int r7] rfl rfl ?_
    refine jv_if_eq hC 46 dX11_ownersOnAll_18 (by decide) (fun h8 => ?_) (fun h8 => ?_)
    · have hF := hi_pos h8 hF
      refine jv_iinc hC 2 [(2, .int (v2 + (1 : Int32))), (0, .ref v0), (1, .int v1)] dX11_ownersOnAll_46 rfl c32_1 (by decide) rfl ?_
      refine jv_goto hC 4 dX11_ownersOnAll_49 (by decide) ?_
      refine jv_sub [1, 2, 0] (ls' := [(0, .ref v0), (1, .int v1), (2, .int (v2 + (1 : Int32)))]) rfl ?_
      exact jv_pc 4 rfl (hk4 _ _ _ _ _ _ hF)
    · have hF := hi_neg h8 hF
      refine jv_iload_n hC 1 dX11_ownersOnAll_21 rfl ?_
      refine jv_aload_n hC 0 dX11_ownersOnAll_22 rfl ?_
      obtain ⟨g9, hF⟩ := hg_some hF
      refine jv_getR hC fl_X11_26 dX11_ownersOnAll_23 rfl g2 g9 ?_
      refine jv_aload_n hC 0 dX11_ownersOnAll_26 rfl ?_
      obtain ⟨g10, hF⟩ := hg_some hF
      refine jv_getR hC fl_X11_19 dX11_ownersOnAll_27 rfl g2 g10 ?_
      refine jv_iload_n hC 2 dX11_ownersOnAll_30 rfl ?_
      refine jv_aload_n hC 0 dX11_ownersOnAll_31 rfl ?_
      refine jv_pc 32 rfl ?_
      refine jv_getR hC fl_X11_26 dX11_ownersOnAll_32 rfl g2 g9 ?_
      obtain ⟨g11, hF⟩ := hg_some hF
      obtain ⟨r14, M13, c12, hF⟩ := hb_some hF
      refine jv_callV hC (st := [.int v2, .ref (M6.2.2 v0 1), .ref (M6.2.2 v0 2), .int v1]) [] (k_Hold_lit c12) mm_Hold_lit mi_Hold_lit ml_X11_165 dX11_ownersOnAll_35 g11 rfl (Nat.le_of_ble_eq_true rfl) rfl rfl (Nat.le_of_ble_eq_true rfl) ?_
      refine jv_nf 38 [.int r14, .int v2, .ref (M6.2.2 v0 1), .ref (M6.2.2 v0 2), .int v1] rfl rfl ?_
      obtain ⟨g15, hF⟩ := hg_some hF
      obtain ⟨r18, M17, c16, hF⟩ := hb_some hF
      refine jv_callV hC (st := [.ref (M6.2.2 v0 2), .int v1]) [.int v2, .int r14] (k_Light_panesOn c16) mm_Light_panesOn mi_Light_panesOn ml_X11_168 dX11_ownersOnAll_38 g15 rfl (Nat.le_of_ble_eq_true rfl) rfl rfl (Nat.le_of_ble_eq_true rfl) ?_
      refine jv_nf 41 [.int r18, .ref (M6.2.2 v0 2), .int v1] rfl rfl ?_
      obtain ⟨r21, M20, c19, hF⟩ := hb_some hF
      refine jv_callV hC (st := [.int v1]) [.int r18] (k_Hold_ownersOf c19) mm_Hold_ownersOf mi_Hold_ownersOf ml_X11_171 dX11_ownersOnAll_41 g11 rfl (Nat.le_of_ble_eq_true rfl) rfl rfl (Nat.le_of_ble_eq_true rfl) ?_
      refine jv_nf 44 [.int r21, .int v1] rfl rfl ?_
      refine jv_iand hC dX11_ownersOnAll_44 ?_
      obtain ⟨x22, e23, hF⟩ := hl_some hF
      refine jv_topI e23 ?_
      refine jv_istore_n hC [(1, .int x22), (0, .ref v0), (2, .int v2)] dX11_ownersOnAll_45 (by decide) rfl ?_
      refine jv_iinc hC 2 [(2, .int (v2 + (1 : Int32))), (1, .int x22), (0, .ref v0)] dX11_ownersOnAll_46 rfl c32_1 (by decide) rfl ?_
      refine jv_goto hC 4 dX11_ownersOnAll_49 (by decide) ?_
      refine jv_sub [2, 1, 0] (ls' := [(0, .ref v0), (1, .int x22), (2, .int (v2 + (1 : Int32)))]) rfl ?_
      exact jv_pc 4 rfl (hk4 _ _ _ _ _ _ hF)
theorem s_Ps_ownersOnAll_1 {X : hm_X} {n : Nat} {S : hm_S} (hC : hm_C X RX11 cX11_ownersOnAll 3 (some .int) 2 n S) : ∀ (q : Nat) (v0 : Nat) (v1 : Int32) (v2 : Int32) (M : hm_M) (r : Int32) (M' : hm_M), f_Ps_ownersOnAll_1 S  q v0 v1 v2 M = some (r, M') → hm_U X 4 [(0, .ref v0), (1, .int v1), (2, .int v2)] [] M (hm_Q X (some (.int r)) M') := by
  intro q
  induction q with
  | zero => intro v0 v1 v2 M r M' hF; cases hF
  | succ q ih => intro v0 v1 v2 M r M' hF; exact t_Ps_ownersOnAll_1 hC ih hF
set_option maxRecDepth 100000 in
set_option maxHeartbeats 4000000 in
theorem k_Ps_ownersOnAll {n : Nat} {S : hm_S} {v0 : Nat} {M : hm_M} {r : Int32} {M' : hm_M} (hF : f_Ps_ownersOnAll S v0 M = some (r, M')) : hm_KM yX11_ownersOnAll cX11_ownersOnAll 3 (some .int) 2 n S [.ref v0] M (some (.int r)) M' := by
  refine hm_enter mm_Ps_ownersOnAll (Nat.le_of_ble_eq_true rfl) (fun X hC => ?_)
  show hm_U X 0 [(0, .ref v0)] [] M _
  unfold f_Ps_ownersOnAll at hF
  refine jv_iconst hC dX11_ownersOnAll_0 c32_m1 ?_
  refine jv_istore_n hC [(1, .int (-1 : Int32)), (0, .ref v0)] dX11_ownersOnAll_1 (by decide) rfl ?_
  refine jv_iconst hC dX11_ownersOnAll_2 c32_0 ?_
  refine jv_istore_n hC [(2, .int (0 : Int32)), (1, .int (-1 : Int32)), (0, .ref v0)] dX11_ownersOnAll_3 (by decide) rfl ?_
  refine jv_sub [2, 1, 0] (ls' := [(0, .ref v0), (1, .int (-1 : Int32)), (2, .int (0 : Int32))]) rfl ?_
  exact jv_pc 4 rfl (s_Ps_ownersOnAll_1 hC hN _ _ _ _ _ _ hF)
set_option maxRecDepth 100000 in
set_option maxHeartbeats 4000000 in
theorem s_Ps_ownersOnSome_2 {X : hm_X} {n : Nat} {S : hm_S} (hC : hm_C X RX11 cX11_ownersOnSome 4 (some .int) 2 n S) {k4 : Nat → Int32 → Int32 → hm_M → Option (Int32 × hm_M)} (hk4 : ∀ (v0 : Nat) (v1 : Int32) (v2 : Int32)  (M : hm_M) (r : Int32) (M' : hm_M), k4 v0 v1 v2 M = some (r, M') → hm_U X 4 [(0, .ref v0), (1, .int v1), (2, .int v2)] [] M (hm_Q X (some (.int r)) M')) {v0 : Nat} {v2 : Int32} {s0 : Int32} {M : hm_M} {r : Int32} {M' : hm_M} (hF : b_Ps_ownersOnSome_2 S k4 v0 v2 s0 M = some (r, M')) : hm_U X 56 [(0, .ref v0), (2, .int v2)] [.int s0] M (hm_Q X (some (.int r)) M') := by
  unfold b_Ps_ownersOnSome_2 at hF
  refine jv_istore_n hC [(1, .int s0), (0, .ref v0), (2, .int v2)] dX11_ownersOnSome_56 (by decide) rfl ?_
  refine jv_iinc hC 2 [(2, .int (v2 + (1 : Int32))), (1, .int s0), (0, .ref v0)] dX11_ownersOnSome_57 rfl c32_1 (by decide) rfl ?_
  refine jv_goto hC 4 dX11_ownersOnSome_60 (by decide) ?_
  refine jv_sub [2, 1, 0] (ls' := [(0, .ref v0), (1, .int s0), (2, .int (v2 + (1 : Int32)))]) rfl ?_
  exact jv_pc 4 rfl (hk4 _ _ _ _ _ _ hF)
set_option maxRecDepth 100000 in
set_option maxHeartbeats 4000000 in
theorem t_Ps_ownersOnSome_1 {X : hm_X} {n : Nat} {S : hm_S} (hC : hm_C X RX11 cX11_ownersOnSome 4 (some .int) 2 n S) {k4 : Nat → Int32 → Int32 → hm_M → Option (Int32 × hm_M)} (hk4 : ∀ (v0 : Nat) (v1 : Int32) (v2 : Int32)  (M : hm_M) (r : Int32) (M' : hm_M), k4 v0 v1 v2 M = some (r, M') → hm_U X 4 [(0, .ref v0), (1, .int v1), (2, .int v2)] [] M (hm_Q X (some (.int r)) M')) {v0 : Nat} {v1 : Int32} {v2 : Int32} {M : hm_M} {r : Int32} {M' : hm_M} (hF : b_Ps_ownersOnSome_1 S k4 v0 v1 v2 M = some (r, M')) : hm_U X 4 [(0, .ref v0), (1, .int v1), (2, .int v2)] [] M (hm_Q X (some (.int r)) M') := by
  unfold b_Ps_ownersOnSome_1 at hF
  refine jv_iload_n hC 2 dX11_ownersOnSome_4 rfl ?_
  refine jv_bipush hC dX11_ownersOnSome_5 c8_64 ?_
  refine jv_icmp_ge hC 63 dX11_ownersOnSome_7 (by decide) (fun h1 => ?_) (fun h1 => ?_)
  · have hF := hi_pos h1 hF
    refine jv_iload_n hC 1 dX11_ownersOnSome_63 rfl ?_
    obtain ⟨rfl, rfl⟩ := hr_some hF
    exact jv_iret hC dX11_ownersOnSome_64
  · have hF := hi_neg h1 hF
    refine jv_aload_n hC 0 dX11_ownersOnSome_10 rfl ?_
    obtain ⟨g2, hF⟩ := hg_some hF
    obtain ⟨g3, hF⟩ := hg_some hF
    refine jv_getR hC fl_X11_61 dX11_ownersOnSome_11 rfl g2 g3 ?_
    refine jv_iload_n hC 2 dX11_ownersOnSome_14 rfl ?_
    obtain ⟨g4, hF⟩ := hg_some hF
    obtain ⟨r7, M6, c5, hF⟩ := hb_some hF
    refine jv_callV hC (st := []) [.int v2] (k_Walk_passes c5) mm_Walk_passes mi_Walk_passes ml_X11_322 dX11_ownersOnSome_15 g4 rfl (Nat.le_of_ble_eq_true rfl) rfl rfl (Nat.le_of_ble_eq_true rfl) ?_
    refine jv_nf 18 [.int r7] rfl rfl ?_
    refine jv_if_eq hC 57 dX11_ownersOnSome_18 (by decide) (fun h8 => ?_) (fun h8 => ?_)
    · have hF := hi_pos h8 hF
      refine jv_iinc hC 2 [(2, .int (v2 + (1 : Int32))), (0, .ref v0), (1, .int v1)] dX11_ownersOnSome_57 rfl c32_1 (by decide) rfl ?_
      refine jv_goto hC 4 dX11_ownersOnSome_60 (by decide) ?_
      refine jv_sub [1, 2, 0] (ls' := [(0, .ref v0), (1, .int v1), (2, .int (v2 + (1 : Int32)))]) rfl ?_
      exact jv_pc 4 rfl (hk4 _ _ _ _ _ _ hF)
    · have hF := hi_neg h8 hF
      refine jv_aload_n hC 0 dX11_ownersOnSome_21 rfl ?_
      obtain ⟨g9, hF⟩ := hg_some hF
      refine jv_getR hC fl_X11_26 dX11_ownersOnSome_22 rfl g2 g9 ?_
      refine jv_aload_n hC 0 dX11_ownersOnSome_25 rfl ?_
      obtain ⟨g10, hF⟩ := hg_some hF
      refine jv_getR hC fl_X11_19 dX11_ownersOnSome_26 rfl g2 g10 ?_
      refine jv_iload_n hC 2 dX11_ownersOnSome_29 rfl ?_
      refine jv_aload_n hC 0 dX11_ownersOnSome_30 rfl ?_
      refine jv_getR hC fl_X11_26 dX11_ownersOnSome_31 rfl g2 g9 ?_
      refine jv_pc 34 rfl ?_
      obtain ⟨g11, hF⟩ := hg_some hF
      obtain ⟨r14, M13, c12, hF⟩ := hb_some hF
      refine jv_callV hC (st := [.int v2, .ref (M6.2.2 v0 1), .ref (M6.2.2 v0 2)]) [] (k_Hold_lit c12) mm_Hold_lit mi_Hold_lit ml_X11_165 dX11_ownersOnSome_34 g11 rfl (Nat.le_of_ble_eq_true rfl) rfl rfl (Nat.le_of_ble_eq_true rfl) ?_
      refine jv_nf 37 [.int r14, .int v2, .ref (M6.2.2 v0 1), .ref (M6.2.2 v0 2)] rfl rfl ?_
      obtain ⟨g15, hF⟩ := hg_some hF
      obtain ⟨r18, M17, c16, hF⟩ := hb_some hF
      refine jv_callV hC (st := [.ref (M6.2.2 v0 2)]) [.int v2, .int r14] (k_Light_panesOn c16) mm_Light_panesOn mi_Light_panesOn ml_X11_168 dX11_ownersOnSome_37 g15 rfl (Nat.le_of_ble_eq_true rfl) rfl rfl (Nat.le_of_ble_eq_true rfl) ?_
      refine jv_nf 40 [.int r18, .ref (M6.2.2 v0 2)] rfl rfl ?_
      obtain ⟨r21, M20, c19, hF⟩ := hb_some hF
      refine jv_callV hC (st := []) [.int r18] (k_Hold_ownersOf c19) mm_Hold_ownersOf mi_Hold_ownersOf ml_X11_171 dX11_ownersOnSome_40 g11 rfl (Nat.le_of_ble_eq_true rfl) rfl rfl (Nat.le_of_ble_eq_true rfl) ?_
      refine jv_nf 43 [.int r21] rfl rfl ?_
      refine jv_istore_n hC [(3, .int r21), (0, .ref v0), (1, .int v1), (2, .int v2)] dX11_ownersOnSome_43 (by decide) rfl ?_
      refine jv_iload_n hC 2 dX11_ownersOnSome_44 rfl ?_
      refine jv_iconst hC dX11_ownersOnSome_45 c32_m1 ?_
      refine jv_icmp_ne hC 53 dX11_ownersOnSome_46 (by decide) (fun h22 => ?_) (fun h22 => ?_)
      · have hF := hi_neg h22 hF
        refine jv_iload_n hC 2 dX11_ownersOnSome_53 rfl ?_
        refine jv_iload_n hC 0 dX11_ownersOnSome_54 rfl ?_
        refine jv_ior hC dX11_ownersOnSome_55 ?_
        refine jv_sub [1, 3] (ls' := [(0, .ref v0), (2, .int v2)]) rfl ?_
        exact jv_pc 56 rfl (s_Ps_ownersOnSome_2 hC hk4 hF)
      · have hF := hi_pos h22 hF
        refine jv_iload_n hC 0 dX11_ownersOnSome_49 rfl ?_
        refine jv_goto hC 56 dX11_ownersOnSome_50 (by decide) ?_
        refine jv_sub [1, 3] (ls' := [(0, .ref v0), (2, .int v2)]) rfl ?_
        exact jv_pc 56 rfl (s_Ps_ownersOnSome_2 hC hk4 hF)
theorem s_Ps_ownersOnSome_1 {X : hm_X} {n : Nat} {S : hm_S} (hC : hm_C X RX11 cX11_ownersOnSome 4 (some .int) 2 n S) : ∀ (q : Nat) (v0 : Nat) (v1 : Int32) (v2 : Int32) (M : hm_M) (r : Int32) (M' : hm_M), f_Ps_ownersOnSome_1 S  q v0 v1 v2 M = some (r, M') → hm_U X 4 [(0, .ref v0), (1, .int v1), (2, .int v2)] [] M (hm_Q X (some (.int r)) M') := by
  intro q
  induction q with
  | zero => intro v0 v1 v2 M r M' hF; cases hF
  | succ q ih => intro v0 v1 v2 M r M' hF; exact t_Ps_ownersOnSome_1 hC ih hF
set_option maxRecDepth 100000 in
set_option maxHeartbeats 4000000 in
theorem k_Ps_ownersOnSome {n : Nat} {S : hm_S} {v0 : Nat} {M : hm_M} {r : Int32} {M' : hm_M} (hF : f_Ps_ownersOnSome S v0 M = some (r, M')) : hm_KM yX11_ownersOnSome cX11_ownersOnSome 4 (some .int) 2 n S [.ref v0] M (some (.int r)) M' := by
  refine hm_enter mm_Ps_ownersOnSome (Nat.le_of_ble_eq_true rfl) (fun X hC => ?_)
  show hm_U X 0 [(0, .ref v0)] [] M _
  unfold f_Ps_ownersOnSome at hF
  refine jv_iconst hC dX11_ownersOnSome_0 c32_m1 ?_
  refine jv_istore_n hC [(1, .int (-1 : Int32)), (0, .ref v0)] dX11_ownersOnSome_1 (by decide) rfl ?_
  refine jv_iconst hC dX11_ownersOnSome_2 c32_0 ?_
  refine jv_istore_n hC [(2, .int (0 : Int32)), (1, .int (-1 : Int32)), (0, .ref v0)] dX11_ownersOnSome_3 (by decide) rfl ?_
  refine jv_sub [2, 1, 0] (ls' := [(0, .ref v0), (1, .int (-1 : Int32)), (2, .int (0 : Int32))]) rfl ?_
  exact jv_pc 4 rfl (s_Ps_ownersOnSome_1 hC hN _ _ _ _ _ _ hF)
set_option maxRecDepth 100000 in
set_option maxHeartbeats 4000000 in
theorem k_Ps_pane {n : Nat} {S : hm_S} {v0 : Nat} {v1 : Int32} {v2 : Int32} {M : hm_M} {r : Int32} {M' : hm_M} (hF : f_Ps_pane S v0 v1 v2 M = some (r, M')) : hm_KM yX11_pane cX11_pane 3 (some .int) 2 n S [.ref v0, .int v1, .int v2] M (some (.int r)) M' := by
  refine hm_enter mm_Ps_pane (Nat.le_of_ble_eq_true rfl) (fun X hC => ?_)
  show hm_U X 0 [(0, .ref v0), (1, .int v1), (2, .int v2)] [] M _
  unfold f_Ps_pane at hF
  refine jv_aload_n hC 0 dX11_pane_0 rfl ?_
  refine jv_iload_n hC 1 dX11_pane_1 rfl ?_
  obtain ⟨g1, hF⟩ := hg_some hF
  obtain ⟨r4, M3, c2, hF⟩ := hb_some hF
  refine jv_callV hC (st := []) [.int v1] (k_Ps_isPane c2) mm_Ps_isPane mi_Ps_isPane ml_X11_126 dX11_pane_2 g1 rfl (Nat.le_of_ble_eq_true rfl) rfl rfl (Nat.le_of_ble_eq_true rfl) ?_
  refine jv_nf 5 [.int r4] rfl rfl ?_
  refine jv_if_ne hC 10 dX11_pane_5 (by decide) (fun h5 => ?_) (fun h5 => ?_)
  · have hF := hi_neg h5 hF
    refine jv_iload_n hC 2 dX11_pane_10 rfl ?_
    by_cases h6 : v2 = (0 : Int32)
    · have hF := hi_pos h6 hF
      refine jv_tableIn hC 44 dX11_pane_11 (by rw [h6]; decide) (by rw [h6]; decide) (by rw [h6]; rfl) (by decide) ?_
      refine jv_aload_n hC 0 dX11_pane_44 rfl ?_
      obtain ⟨g7, hF⟩ := hg_some hF
      refine jv_getR hC fl_X11_19 dX11_pane_45 rfl g1 g7 ?_
      obtain ⟨g8, hF⟩ := hg_some hF
      obtain ⟨g9, hF⟩ := hg_some hF
      refine jv_getR hC fl_X11_98 dX11_pane_48 rfl g8 g9 ?_
      obtain ⟨g10, hF⟩ := hg_some hF
      obtain ⟨g11, hF⟩ := hg_some hF
      refine jv_getR hC fl_X11_129 dX11_pane_51 rfl g10 g11 ?_
      refine jv_iload_n hC 1 dX11_pane_54 rfl ?_
      obtain ⟨g12, hF⟩ := hg_some hF
      obtain ⟨n13, sn13, in13⟩ := hm_ib_ok g12
      refine jv_iaload hC dX11_pane_55 sn13 in13 ?_
      obtain ⟨rfl, rfl⟩ := hr_some hF
      exact jv_iret hC dX11_pane_56
    have hF := hi_neg h6 hF
    by_cases h14 : v2 = (1 : Int32)
    · have hF := hi_pos h14 hF
      refine jv_tableIn hC 57 dX11_pane_11 (by rw [h14]; decide) (by rw [h14]; decide) (by rw [h14]; rfl) (by decide) ?_
      refine jv_aload_n hC 0 dX11_pane_57 rfl ?_
      obtain ⟨g15, hF⟩ := hg_some hF
      refine jv_getR hC fl_X11_19 dX11_pane_58 rfl g1 g15 ?_
      obtain ⟨g16, hF⟩ := hg_some hF
      obtain ⟨g17, hF⟩ := hg_some hF
      refine jv_getR hC fl_X11_98 dX11_pane_61 rfl g16 g17 ?_
      obtain ⟨g18, hF⟩ := hg_some hF
      obtain ⟨g19, hF⟩ := hg_some hF
      refine jv_getR hC fl_X11_132 dX11_pane_64 rfl g18 g19 ?_
      refine jv_iload_n hC 1 dX11_pane_67 rfl ?_
      obtain ⟨g20, hF⟩ := hg_some hF
      obtain ⟨n21, sn21, in21⟩ := hm_ib_ok g20
      refine jv_iaload hC dX11_pane_68 sn21 in21 ?_
      obtain ⟨rfl, rfl⟩ := hr_some hF
      exact jv_iret hC dX11_pane_69
    have hF := hi_neg h14 hF
    by_cases h22 : v2 = (2 : Int32)
    · have hF := hi_pos h22 hF
      refine jv_tableIn hC 70 dX11_pane_11 (by rw [h22]; decide) (by rw [h22]; decide) (by rw [h22]; rfl) (by decide) ?_
      refine jv_aload_n hC 0 dX11_pane_70 rfl ?_
      obtain ⟨g23, hF⟩ := hg_some hF
      refine jv_getR hC fl_X11_26 dX11_pane_71 rfl g1 g23 ?_
      obtain ⟨g24, hF⟩ := hg_some hF
      obtain ⟨g25, hF⟩ := hg_some hF
      refine jv_getR hC fl_X11_135 dX11_pane_74 rfl g24 g25 ?_
      refine jv_iload_n hC 1 dX11_pane_77 rfl ?_
      obtain ⟨g26, hF⟩ := hg_some hF
      obtain ⟨n27, sn27, in27⟩ := hm_ib_ok g26
      refine jv_iaload hC dX11_pane_78 sn27 in27 ?_
      obtain ⟨rfl, rfl⟩ := hr_some hF
      exact jv_iret hC dX11_pane_79
    have hF := hi_neg h22 hF
    by_cases h28 : v2 = (3 : Int32)
    · have hF := hi_pos h28 hF
      refine jv_tableIn hC 80 dX11_pane_11 (by rw [h28]; decide) (by rw [h28]; decide) (by rw [h28]; rfl) (by decide) ?_
      refine jv_aload_n hC 0 dX11_pane_80 rfl ?_
      obtain ⟨g29, hF⟩ := hg_some hF
      refine jv_getR hC fl_X11_19 dX11_pane_81 rfl g1 g29 ?_
      obtain ⟨g30, hF⟩ := hg_some hF
      obtain ⟨g31, hF⟩ := hg_some hF
      refine jv_getR hC fl_X11_98 dX11_pane_84 rfl g30 g31 ?_
      obtain ⟨g32, hF⟩ := hg_some hF
      obtain ⟨g33, hF⟩ := hg_some hF
      refine jv_getR hC fl_X11_138 dX11_pane_87 rfl g32 g33 ?_
      refine jv_iload_n hC 1 dX11_pane_90 rfl ?_
      obtain ⟨g34, hF⟩ := hg_some hF
      obtain ⟨n35, sn35, in35⟩ := hm_ib_ok g34
      refine jv_iaload hC dX11_pane_91 sn35 in35 ?_
      obtain ⟨rfl, rfl⟩ := hr_some hF
      exact jv_iret hC dX11_pane_92
    have hF := hi_neg h28 hF
    by_cases h36 : v2 = (4 : Int32)
    · have hF := hi_pos h36 hF
      refine jv_tableIn hC 93 dX11_pane_11 (by rw [h36]; decide) (by rw [h36]; decide) (by rw [h36]; rfl) (by decide) ?_
      refine jv_aload_n hC 0 dX11_pane_93 rfl ?_
      obtain ⟨g37, hF⟩ := hg_some hF
      refine jv_getR hC fl_X11_26 dX11_pane_94 rfl g1 g37 ?_
      refine jv_iload_n hC 1 dX11_pane_97 rfl ?_
      obtain ⟨g38, hF⟩ := hg_some hF
      obtain ⟨r41, M40, c39, hF⟩ := hb_some hF
      refine jv_callV hC (st := []) [.int v1] (k_Hold_isBroken c39) mm_Hold_isBroken mi_Hold_isBroken ml_X11_141 dX11_pane_98 g38 rfl (Nat.le_of_ble_eq_true rfl) rfl rfl (Nat.le_of_ble_eq_true rfl) ?_
      refine jv_nf 101 [.int r41] rfl rfl ?_
      refine jv_if_eq hC 108 dX11_pane_101 (by decide) (fun h42 => ?_) (fun h42 => ?_)
      · have hF := hi_pos h42 hF
        refine jv_iconst hC dX11_pane_108 c32_0 ?_
        obtain ⟨rfl, rfl⟩ := hr_some hF
        exact jv_iret hC dX11_pane_109
      · have hF := hi_neg h42 hF
        refine jv_iconst hC dX11_pane_104 c32_1 ?_
        refine jv_goto hC 109 dX11_pane_105 (by decide) ?_
        obtain ⟨rfl, rfl⟩ := hr_some hF
        exact jv_iret hC dX11_pane_109
    have hF := hi_neg h36 hF
    refine jv_tableOut hC 110 dX11_pane_11 (by have := hm_out (c := 0) (by decide) h6; have := hm_out (c := 1) (by decide) h14; have := hm_out (c := 2) (by decide) h22; have := hm_out (c := 3) (by decide) h28; have := hm_out (c := 4) (by decide) h36; omega) (by decide) ?_
    refine jv_iconst hC dX11_pane_110 c32_m1 ?_
    obtain ⟨rfl, rfl⟩ := hr_some hF
    exact jv_iret hC dX11_pane_111
  · have hF := hi_pos h5 hF
    refine jv_iconst hC dX11_pane_8 c32_m1 ?_
    obtain ⟨rfl, rfl⟩ := hr_some hF
    exact jv_iret hC dX11_pane_9
set_option maxRecDepth 100000 in
set_option maxHeartbeats 4000000 in
theorem k_Ps_place {n : Nat} {S : hm_S} {v0 : Nat} {v1 : Int32} {v2 : Int32} {v3 : Int32} {v4 : Int32} {v5 : Int32} {M : hm_M} {r : Int32} {M' : hm_M} (hF : f_Ps_place S v0 v1 v2 v3 v4 v5 M = some (r, M')) : hm_KM yX11_place cX11_place 7 (some .int) 5 n S [.ref v0, .int v1, .int v2, .int v3, .int v4, .int v5] M (some (.int r)) M' := by
  refine hm_enter mm_Ps_place (Nat.le_of_ble_eq_true rfl) (fun X hC => ?_)
  show hm_U X 0 [(0, .ref v0), (1, .int v1), (2, .int v2), (3, .int v3), (4, .int v4), (5, .int v5)] [] M _
  unfold f_Ps_place at hF
  refine jv_aload_n hC 0 dX11_place_0 rfl ?_
  obtain ⟨g1, hF⟩ := hg_some hF
  obtain ⟨g2, hF⟩ := hg_some hF
  refine jv_getR hC fl_X11_19 dX11_place_1 rfl g1 g2 ?_
  obtain ⟨g3, hF⟩ := hg_some hF
  obtain ⟨g4, hF⟩ := hg_some hF
  refine jv_getR hC fl_X11_98 dX11_place_4 rfl g3 g4 ?_
  refine jv_iload_n hC 1 dX11_place_7 rfl ?_
  refine jv_iload_n hC 2 dX11_place_8 rfl ?_
  obtain ⟨g5, hF⟩ := hg_some hF
  obtain ⟨r8, M7, c6, hF⟩ := hb_some hF
  refine jv_callV hC (st := []) [.int v1, .int v2] (k_Chapel_hasPlace c6) mm_Chapel_hasPlace mi_Chapel_hasPlace ml_X11_159 dX11_place_9 g5 rfl (Nat.le_of_ble_eq_true rfl) rfl rfl (Nat.le_of_ble_eq_true rfl) ?_
  refine jv_nf 12 [.int r8] rfl rfl ?_
  refine jv_if_eq hC 24 dX11_place_12 (by decide) (fun h9 => ?_) (fun h9 => ?_)
  · have hF := hi_pos h9 hF
    refine jv_iconst hC dX11_place_24 c32_m1 ?_
    obtain ⟨rfl, rfl⟩ := hr_some hF
    exact jv_iret hC dX11_place_25
  · have hF := hi_neg h9 hF
    refine jv_iload_n hC 3 dX11_place_15 rfl ?_
    refine jv_iload hC 4 dX11_place_16 rfl ?_
    obtain ⟨r12, M11, c10, hF⟩ := hb_some hF
    refine jv_callS hC (st := []) [.int v3, .int v4] (k_Ps_isTime c10) mm_Ps_isTime ms_Ps_isTime ml_X11_144 dX11_place_18 (Nat.le_of_ble_eq_true rfl) rfl rfl (Nat.le_of_ble_eq_true rfl) ?_
    refine jv_nf 21 [.int r12] rfl rfl ?_
    refine jv_if_ne hC 26 dX11_place_21 (by decide) (fun h13 => ?_) (fun h13 => ?_)
    · have hF := hi_neg h13 hF
      refine jv_aload_n hC 0 dX11_place_26 rfl ?_
      obtain ⟨g14, hF⟩ := hg_some hF
      refine jv_getR hC fl_X11_19 dX11_place_27 rfl g1 g14 ?_
      refine jv_iload_n hC 3 dX11_place_30 rfl ?_
      refine jv_iload hC 4 dX11_place_31 rfl ?_
      obtain ⟨r17, M16, c15, hF⟩ := hb_some hF
      refine jv_callS hC (st := [.ref (M11.2.2 v0 1)]) [.int v3, .int v4] (k_Ps_timeOf c15) mm_Ps_timeOf ms_Ps_timeOf ml_X11_148 dX11_place_33 (Nat.le_of_ble_eq_true rfl) rfl rfl (Nat.le_of_ble_eq_true rfl) ?_
      refine jv_nf 36 [.int r17, .ref (M11.2.2 v0 1)] rfl rfl ?_
      obtain ⟨g18, hF⟩ := hg_some hF
      obtain ⟨M20, c19, hF⟩ := hv_some hF
      refine jv_callV hC (st := []) [.int r17] (k_Light_turnTo c19) mm_Light_turnTo mi_Light_turnTo ml_X11_152 dX11_place_36 g18 rfl (Nat.le_of_ble_eq_true rfl) rfl rfl (Nat.le_of_ble_eq_true rfl) ?_
      refine jv_nf 39 [] rfl rfl ?_
      refine jv_aload_n hC 0 dX11_place_39 rfl ?_
      obtain ⟨g21, hF⟩ := hg_some hF
      refine jv_getR hC fl_X11_19 dX11_place_40 rfl g1 g21 ?_
      refine jv_iload_n hC 1 dX11_place_43 rfl ?_
      refine jv_iload_n hC 2 dX11_place_44 rfl ?_
      obtain ⟨r24, M23, c22, hF⟩ := hb_some hF
      refine jv_callS hC (st := [.ref (M20.2.2 v0 1)]) [.int v1, .int v2] (k_Ps_placeOf c22) mm_Ps_placeOf ms_Ps_placeOf ml_X11_162 dX11_place_45 (Nat.le_of_ble_eq_true rfl) rfl rfl (Nat.le_of_ble_eq_true rfl) ?_
      refine jv_nf 48 [.int r24, .ref (M20.2.2 v0 1)] rfl rfl ?_
      refine jv_aload_n hC 0 dX11_place_48 rfl ?_
      obtain ⟨g25, hF⟩ := hg_some hF
      refine jv_getR hC fl_X11_26 dX11_place_49 rfl g1 g25 ?_
      obtain ⟨g26, hF⟩ := hg_some hF
      obtain ⟨r29, M28, c27, hF⟩ := hb_some hF
      refine jv_callV hC (st := [.int r24, .ref (M20.2.2 v0 1)]) [] (k_Hold_lit c27) mm_Hold_lit mi_Hold_lit ml_X11_165 dX11_place_52 g26 rfl (Nat.le_of_ble_eq_true rfl) rfl rfl (Nat.le_of_ble_eq_true rfl) ?_
      refine jv_nf 55 [.int r29, .int r24, .ref (M20.2.2 v0 1)] rfl rfl ?_
      obtain ⟨g30, hF⟩ := hg_some hF
      obtain ⟨r33, M32, c31, hF⟩ := hb_some hF
      refine jv_callV hC (st := []) [.int r24, .int r29] (k_Light_panesOn c31) mm_Light_panesOn mi_Light_panesOn ml_X11_168 dX11_place_55 g30 rfl (Nat.le_of_ble_eq_true rfl) rfl rfl (Nat.le_of_ble_eq_true rfl) ?_
      refine jv_nf 58 [.int r33] rfl rfl ?_
      refine jv_istore hC [(6, .int r33), (0, .ref v0), (1, .int v1), (2, .int v2), (3, .int v3), (4, .int v4), (5, .int v5)] dX11_place_58 (by decide) rfl ?_
      refine jv_sub [0, 1, 6] (ls' := [(6, .int r33), (0, .ref v0), (5, .int v5)]) rfl ?_
      refine jv_iload hC 2 dX11_place_60 rfl ?_
      by_cases h34 : v5 = (0 : Int32)
      · have hF := hi_pos h34 hF
        refine jv_tableIn hC 88 dX11_place_62 (by rw [h34]; decide) (by rw [h34]; decide) (by rw [h34]; rfl) (by decide) ?_
        refine jv_aload_n hC 1 dX11_place_88 rfl ?_
        obtain ⟨g35, hF⟩ := hg_some hF
        refine jv_getR hC fl_X11_26 dX11_place_89 rfl g1 g35 ?_
        refine jv_iload hC 0 dX11_place_92 rfl ?_
        obtain ⟨g36, hF⟩ := hg_some hF
        obtain ⟨r39, M38, c37, hF⟩ := hb_some hF
        refine jv_callV hC (st := []) [.int r33] (k_Hold_ownersOf c37) mm_Hold_ownersOf mi_Hold_ownersOf ml_X11_171 dX11_place_94 g36 rfl (Nat.le_of_ble_eq_true rfl) rfl rfl (Nat.le_of_ble_eq_true rfl) ?_
        refine jv_nf 97 [.int r39] rfl rfl ?_
        obtain ⟨rfl, rfl⟩ := hr_some hF
        exact jv_iret hC dX11_place_97
      have hF := hi_neg h34 hF
      by_cases h40 : v5 = (1 : Int32)
      · have hF := hi_pos h40 hF
        refine jv_tableIn hC 98 dX11_place_62 (by rw [h40]; decide) (by rw [h40]; decide) (by rw [h40]; rfl) (by decide) ?_
        refine jv_aload_n hC 1 dX11_place_98 rfl ?_
        obtain ⟨g41, hF⟩ := hg_some hF
        refine jv_getR hC fl_X11_19 dX11_place_99 rfl g1 g41 ?_
        obtain ⟨g42, hF⟩ := hg_some hF
        obtain ⟨g43, hF⟩ := hg_some hF
        refine jv_getR hC fl_X11_98 dX11_place_102 rfl g42 g43 ?_
        refine jv_iload hC 0 dX11_place_105 rfl ?_
        obtain ⟨g44, hF⟩ := hg_some hF
        obtain ⟨r47, M46, c45, hF⟩ := hb_some hF
        refine jv_callV hC (st := []) [.int r33] (k_Chapel_colourOf c45) mm_Chapel_colourOf mi_Chapel_colourOf ml_X11_174 dX11_place_107 g44 rfl (Nat.le_of_ble_eq_true rfl) rfl rfl (Nat.le_of_ble_eq_true rfl) ?_
        refine jv_nf 110 [.int r47] rfl rfl ?_
        obtain ⟨rfl, rfl⟩ := hr_some hF
        exact jv_iret hC dX11_place_110
      have hF := hi_neg h40 hF
      by_cases h48 : v5 = (2 : Int32)
      · have hF := hi_pos h48 hF
        refine jv_tableIn hC 111 dX11_place_62 (by rw [h48]; decide) (by rw [h48]; decide) (by rw [h48]; rfl) (by decide) ?_
        refine jv_iload hC 0 dX11_place_111 rfl ?_
        obtain ⟨r51, M50, c49, hF⟩ := hb_some hF
        refine jv_callS hC (st := []) [.int r33] (k_J6_bitCount_0f7a4 c49) mm_J6_bitCount_0f7a4 ms_J6_bitCount_0f7a4 ml_X11_177 dX11_place_113 (Nat.le_of_ble_eq_true rfl) rfl rfl (Nat.le_of_ble_eq_true rfl) ?_
        refine jv_nf 116 [.int r51] rfl rfl ?_
        obtain ⟨rfl, rfl⟩ := hr_some hF
        exact jv_iret hC dX11_place_116
      have hF := hi_neg h48 hF
      refine jv_tableOut hC 117 dX11_place_62 (by have := hm_out (c := 0) (by decide) h34; have := hm_out (c := 1) (by decide) h40; have := hm_out (c := 2) (by decide) h48; omega) (by decide) ?_
      refine jv_iconst hC dX11_place_117 c32_m1 ?_
      obtain ⟨rfl, rfl⟩ := hr_some hF
      exact jv_iret hC dX11_place_118
    · have hF := hi_pos h13 hF
      refine jv_iconst hC dX11_place_24 c32_m1 ?_
      obtain ⟨rfl, rfl⟩ := hr_some hF
      exact jv_iret hC dX11_place_25
set_option maxRecDepth 100000 in
set_option maxHeartbeats 4000000 in
theorem k_Ps_rents {n : Nat} {S : hm_S} {v0 : Nat} {v1 : Int32} {M : hm_M} {r : Int32} {M' : hm_M} (hF : f_Ps_rents S v0 v1 M = some (r, M')) : hm_KM yX11_rents cX11_rents 2 (some .int) 8 n S [.ref v0, .int v1] M (some (.int r)) M' := by
  refine hm_enter mm_Ps_rents (Nat.le_of_ble_eq_true rfl) (fun X hC => ?_)
  show hm_U X 0 [(0, .ref v0), (1, .int v1)] [] M _
  unfold f_Ps_rents at hF
  refine jv_aload_n hC 0 dX11_rents_0 rfl ?_
  refine jv_iload_n hC 1 dX11_rents_1 rfl ?_
  obtain ⟨g1, hF⟩ := hg_some hF
  obtain ⟨r4, M3, c2, hF⟩ := hb_some hF
  refine jv_callV hC (st := []) [.int v1] (k_Ps_isGuild c2) mm_Ps_isGuild mi_Ps_isGuild ml_X11_109 dX11_rents_2 g1 rfl (Nat.le_of_ble_eq_true rfl) rfl rfl (Nat.le_of_ble_eq_true rfl) ?_
  refine jv_nf 5 [.int r4] rfl rfl ?_
  refine jv_if_ne hC 10 dX11_rents_5 (by decide) (fun h5 => ?_) (fun h5 => ?_)
  · have hF := hi_neg h5 hF
    refine jv_aload_n hC 0 dX11_rents_10 rfl ?_
    obtain ⟨g6, hF⟩ := hg_some hF
    refine jv_getR hC fl_X11_40 dX11_rents_11 rfl g1 g6 ?_
    refine jv_aload_n hC 0 dX11_rents_14 rfl ?_
    obtain ⟨r9, M8, c7, hF⟩ := hb_some hF
    refine jv_callV hC (st := [.ref (M3.2.2 v0 4)]) [] (k_Ps_yearNow c7) mm_Ps_yearNow mi_Ps_yearNow ml_X11_182 dX11_rents_15 g1 rfl (Nat.le_of_ble_eq_true rfl) rfl rfl (Nat.le_of_ble_eq_true rfl) ?_
    refine jv_nf 18 [.int r9, .ref (M3.2.2 v0 4)] rfl rfl ?_
    refine jv_aload_n hC 0 dX11_rents_18 rfl ?_
    obtain ⟨g10, hF⟩ := hg_some hF
    refine jv_getR hC fl_X11_26 dX11_rents_19 rfl g1 g10 ?_
    refine jv_iload_n hC 1 dX11_rents_22 rfl ?_
    obtain ⟨g11, hF⟩ := hg_some hF
    obtain ⟨r14, M13, c12, hF⟩ := hb_some hF
    refine jv_callV hC (st := [.int r9, .ref (M3.2.2 v0 4)]) [.int v1] (k_Hold_panesOf c12) mm_Hold_panesOf mi_Hold_panesOf ml_X11_122 dX11_rents_23 g11 rfl (Nat.le_of_ble_eq_true rfl) rfl rfl (Nat.le_of_ble_eq_true rfl) ?_
    refine jv_nf 26 [.int r14, .int r9, .ref (M3.2.2 v0 4)] rfl rfl ?_
    obtain ⟨g15, hF⟩ := hg_some hF
    obtain ⟨r18, M17, c16, hF⟩ := hb_some hF
    refine jv_callV hC (st := []) [.int r9, .int r14] (k_Rents_givenBy c16) mm_Rents_givenBy mi_Rents_givenBy ml_X11_188 dX11_rents_26 g15 rfl (Nat.le_of_ble_eq_true rfl) rfl rfl (Nat.le_of_ble_eq_true rfl) ?_
    refine jv_nf 29 [.int r18] rfl rfl ?_
    obtain ⟨rfl, rfl⟩ := hr_some hF
    exact jv_iret hC dX11_rents_29
  · have hF := hi_pos h5 hF
    refine jv_iconst hC dX11_rents_8 c32_m1 ?_
    obtain ⟨rfl, rfl⟩ := hr_some hF
    exact jv_iret hC dX11_rents_9
set_option maxRecDepth 100000 in
set_option maxHeartbeats 4000000 in
theorem k_Hold_keepSeen {n : Nat} {S : hm_S} {v0 : Nat} {v1 : Int32} {v2 : Int32} {M : hm_M} {r : Int32} {M' : hm_M} (hF : f_Hold_keepSeen S v0 v1 v2 M = some (r, M')) : hm_KM yX2_keepSeen cX2_keepSeen 3 (some .int) 1 n S [.ref v0, .int v1, .int v2] M (some (.int r)) M' := by
  refine hm_enter mm_Hold_keepSeen (Nat.le_of_ble_eq_true rfl) (fun X hC => ?_)
  show hm_U X 0 [(0, .ref v0), (1, .int v1), (2, .int v2)] [] M _
  unfold f_Hold_keepSeen at hF
  refine jv_aload_n hC 0 dX2_keepSeen_0 rfl ?_
  obtain ⟨g1, hF⟩ := hg_some hF
  refine jv_getI hC fl_X2_19 dX2_keepSeen_1 rfl g1 ?_
  refine jv_bipush hC dX2_keepSeen_4 c8_8 ?_
  refine jv_icmp_lt hC 11 dX2_keepSeen_6 (by decide) (fun h2 => ?_) (fun h2 => ?_)
  · have hF := hi_pos h2 hF
    refine jv_aload_n hC 0 dX2_keepSeen_11 rfl ?_
    obtain ⟨g3, hF⟩ := hg_some hF
    refine jv_getR hC fl_X2_22 dX2_keepSeen_12 rfl g1 g3 ?_
    refine jv_aload_n hC 0 dX2_keepSeen_15 rfl ?_
    refine jv_getI hC fl_X2_19 dX2_keepSeen_16 rfl g1 ?_
    refine jv_iload_n hC 1 dX2_keepSeen_19 rfl ?_
    obtain ⟨g4, hF⟩ := hg_some hF
    obtain ⟨n5, sn5, in5⟩ := hm_ib_ok g4
    refine jv_iastore hC dX2_keepSeen_20 sn5 in5 ?_
    obtain ⟨M6, e7, hF⟩ := hl_some hF
    refine jv_mem e7 ?_
    refine jv_aload_n hC 0 dX2_keepSeen_21 rfl ?_
    refine jv_pc 22 rfl ?_
    obtain ⟨g8, hF⟩ := hg_some hF
    refine jv_getR hC fl_X2_25 dX2_keepSeen_22 rfl g1 g8 ?_
    refine jv_aload_n hC 0 dX2_keepSeen_25 rfl ?_
    refine jv_getI hC fl_X2_19 dX2_keepSeen_26 rfl g1 ?_
    refine jv_iload_n hC 2 dX2_keepSeen_29 rfl ?_
    obtain ⟨g9, hF⟩ := hg_some hF
    obtain ⟨n10, sn10, in10⟩ := hm_ib_ok g9
    refine jv_iastore hC dX2_keepSeen_30 sn10 in10 ?_
    obtain ⟨M11, e12, hF⟩ := hl_some hF
    refine jv_mem e12 ?_
    refine jv_aload_n hC 0 dX2_keepSeen_31 rfl ?_
    refine jv_dup hC dX2_keepSeen_32 rfl ?_
    refine jv_getI hC fl_X2_19 dX2_keepSeen_33 rfl g1 ?_
    refine jv_pc 36 rfl ?_
    refine jv_iconst hC dX2_keepSeen_36 c32_1 ?_
    refine jv_iadd hC dX2_keepSeen_37 ?_
    refine jv_putI hC fl_X2_19 dX2_keepSeen_38 rfl rfl rfl g1 ?_
    obtain ⟨M13, e14, hF⟩ := hl_some hF
    refine jv_mem e14 ?_
    refine jv_aload_n hC 0 dX2_keepSeen_41 rfl ?_
    refine jv_getI hC fl_X2_19 dX2_keepSeen_42 rfl g1 ?_
    obtain ⟨rfl, rfl⟩ := hr_some hF
    exact jv_iret hC dX2_keepSeen_45
  · have hF := hi_neg h2 hF
    refine jv_iconst hC dX2_keepSeen_9 c32_m1 ?_
    obtain ⟨rfl, rfl⟩ := hr_some hF
    exact jv_iret hC dX2_keepSeen_10
set_option maxRecDepth 100000 in
set_option maxHeartbeats 4000000 in
theorem k_Ps_see {n : Nat} {S : hm_S} {v0 : Nat} {v1 : Int32} {v2 : Int32} {v3 : Int32} {M : hm_M} {r : Int32} {M' : hm_M} (hF : f_Ps_see S v0 v1 v2 v3 M = some (r, M')) : hm_KM yX11_see cX11_see 4 (some .int) 2 n S [.ref v0, .int v1, .int v2, .int v3] M (some (.int r)) M' := by
  refine hm_enter mm_Ps_see (Nat.le_of_ble_eq_true rfl) (fun X hC => ?_)
  show hm_U X 0 [(0, .ref v0), (1, .int v1), (2, .int v2), (3, .int v3)] [] M _
  unfold f_Ps_see at hF
  refine jv_aload_n hC 0 dX11_see_0 rfl ?_
  obtain ⟨g1, hF⟩ := hg_some hF
  obtain ⟨g2, hF⟩ := hg_some hF
  refine jv_getR hC fl_X11_19 dX11_see_1 rfl g1 g2 ?_
  obtain ⟨g3, hF⟩ := hg_some hF
  obtain ⟨g4, hF⟩ := hg_some hF
  refine jv_getR hC fl_X11_98 dX11_see_4 rfl g3 g4 ?_
  refine jv_iload_n hC 1 dX11_see_7 rfl ?_
  refine jv_iload_n hC 2 dX11_see_8 rfl ?_
  obtain ⟨g5, hF⟩ := hg_some hF
  obtain ⟨r8, M7, c6, hF⟩ := hb_some hF
  refine jv_callV hC (st := []) [.int v1, .int v2] (k_Chapel_hasPlace c6) mm_Chapel_hasPlace mi_Chapel_hasPlace ml_X11_159 dX11_see_9 g5 rfl (Nat.le_of_ble_eq_true rfl) rfl rfl (Nat.le_of_ble_eq_true rfl) ?_
  refine jv_nf 12 [.int r8] rfl rfl ?_
  refine jv_if_eq hC 25 dX11_see_12 (by decide) (fun h9 => ?_) (fun h9 => ?_)
  · have hF := hi_pos h9 hF
    refine jv_iconst hC dX11_see_25 c32_m1 ?_
    obtain ⟨rfl, rfl⟩ := hr_some hF
    exact jv_iret hC dX11_see_26
  · have hF := hi_neg h9 hF
    refine jv_iload_n hC 3 dX11_see_15 rfl ?_
    refine jv_if_lt hC 25 dX11_see_16 (by decide) (fun h10 => ?_) (fun h10 => ?_)
    · have hF := hi_pos h10 hF
      refine jv_iconst hC dX11_see_25 c32_m1 ?_
      obtain ⟨rfl, rfl⟩ := hr_some hF
      exact jv_iret hC dX11_see_26
    · have hF := hi_neg h10 hF
      refine jv_iload_n hC 3 dX11_see_19 rfl ?_
      refine jv_bipush hC dX11_see_20 c8_7 ?_
      refine jv_icmp_le hC 27 dX11_see_22 (by decide) (fun h11 => ?_) (fun h11 => ?_)
      · have hF := hi_pos h11 hF
        refine jv_aload_n hC 0 dX11_see_27 rfl ?_
        obtain ⟨g12, hF⟩ := hg_some hF
        refine jv_getR hC fl_X11_26 dX11_see_28 rfl g1 g12 ?_
        refine jv_iload_n hC 1 dX11_see_31 rfl ?_
        refine jv_iload_n hC 2 dX11_see_32 rfl ?_
        obtain ⟨r15, M14, c13, hF⟩ := hb_some hF
        refine jv_callS hC (st := [.ref (M7.2.2 v0 2)]) [.int v1, .int v2] (k_Ps_placeOf c13) mm_Ps_placeOf ms_Ps_placeOf ml_X11_162 dX11_see_33 (Nat.le_of_ble_eq_true rfl) rfl rfl (Nat.le_of_ble_eq_true rfl) ?_
        refine jv_nf 36 [.int r15, .ref (M7.2.2 v0 2)] rfl rfl ?_
        refine jv_iload_n hC 3 dX11_see_36 rfl ?_
        obtain ⟨g16, hF⟩ := hg_some hF
        obtain ⟨r19, M18, c17, hF⟩ := hb_some hF
        refine jv_callV hC (st := []) [.int r15, .int v3] (k_Hold_keepSeen c17) mm_Hold_keepSeen mi_Hold_keepSeen ml_X11_243 dX11_see_37 g16 rfl (Nat.le_of_ble_eq_true rfl) rfl rfl (Nat.le_of_ble_eq_true rfl) ?_
        refine jv_nf 40 [.int r19] rfl rfl ?_
        obtain ⟨rfl, rfl⟩ := hr_some hF
        exact jv_iret hC dX11_see_40
      · have hF := hi_neg h11 hF
        refine jv_iconst hC dX11_see_25 c32_m1 ?_
        obtain ⟨rfl, rfl⟩ := hr_some hF
        exact jv_iret hC dX11_see_26
set_option maxRecDepth 100000 in
set_option maxHeartbeats 4000000 in
theorem k_Ps_spot {n : Nat} {S : hm_S} {v0 : Nat} {v1 : Int32} {v2 : Int32} {v3 : Int32} {M : hm_M} {r : Int32} {M' : hm_M} (hF : f_Ps_spot S v0 v1 v2 v3 M = some (r, M')) : hm_KM yX11_spot cX11_spot 4 (some .int) 5 n S [.ref v0, .int v1, .int v2, .int v3] M (some (.int r)) M' := by
  refine hm_enter mm_Ps_spot (Nat.le_of_ble_eq_true rfl) (fun X hC => ?_)
  show hm_U X 0 [(0, .ref v0), (1, .int v1), (2, .int v2), (3, .int v3)] [] M _
  unfold f_Ps_spot at hF
  refine jv_aload_n hC 0 dX11_spot_0 rfl ?_
  refine jv_iload_n hC 1 dX11_spot_1 rfl ?_
  obtain ⟨g1, hF⟩ := hg_some hF
  obtain ⟨r4, M3, c2, hF⟩ := hb_some hF
  refine jv_callV hC (st := []) [.int v1] (k_Ps_isPane c2) mm_Ps_isPane mi_Ps_isPane ml_X11_126 dX11_spot_2 g1 rfl (Nat.le_of_ble_eq_true rfl) rfl rfl (Nat.le_of_ble_eq_true rfl) ?_
  refine jv_nf 5 [.int r4] rfl rfl ?_
  refine jv_if_eq hC 27 dX11_spot_5 (by decide) (fun h5 => ?_) (fun h5 => ?_)
  · have hF := hi_pos h5 hF
    refine jv_iconst hC dX11_spot_27 c32_m1 ?_
    obtain ⟨rfl, rfl⟩ := hr_some hF
    exact jv_iret hC dX11_spot_28
  · have hF := hi_neg h5 hF
    refine jv_iload_n hC 2 dX11_spot_8 rfl ?_
    refine jv_iload_n hC 3 dX11_spot_9 rfl ?_
    obtain ⟨r8, M7, c6, hF⟩ := hb_some hF
    refine jv_callS hC (st := []) [.int v2, .int v3] (k_Ps_isTime c6) mm_Ps_isTime ms_Ps_isTime ml_X11_144 dX11_spot_10 (Nat.le_of_ble_eq_true rfl) rfl rfl (Nat.le_of_ble_eq_true rfl) ?_
    refine jv_nf 13 [.int r8] rfl rfl ?_
    refine jv_if_eq hC 27 dX11_spot_13 (by decide) (fun h9 => ?_) (fun h9 => ?_)
    · have hF := hi_pos h9 hF
      refine jv_iconst hC dX11_spot_27 c32_m1 ?_
      obtain ⟨rfl, rfl⟩ := hr_some hF
      exact jv_iret hC dX11_spot_28
    · have hF := hi_neg h9 hF
      refine jv_aload_n hC 0 dX11_spot_16 rfl ?_
      obtain ⟨g10, hF⟩ := hg_some hF
      refine jv_getR hC fl_X11_26 dX11_spot_17 rfl g1 g10 ?_
      refine jv_iload_n hC 1 dX11_spot_20 rfl ?_
      obtain ⟨g11, hF⟩ := hg_some hF
      obtain ⟨r14, M13, c12, hF⟩ := hb_some hF
      refine jv_callV hC (st := []) [.int v1] (k_Hold_isBroken c12) mm_Hold_isBroken mi_Hold_isBroken ml_X11_141 dX11_spot_21 g11 rfl (Nat.le_of_ble_eq_true rfl) rfl rfl (Nat.le_of_ble_eq_true rfl) ?_
      refine jv_nf 24 [.int r14] rfl rfl ?_
      refine jv_if_eq hC 29 dX11_spot_24 (by decide) (fun h15 => ?_) (fun h15 => ?_)
      · have hF := hi_pos h15 hF
        refine jv_aload_n hC 0 dX11_spot_29 rfl ?_
        obtain ⟨g16, hF⟩ := hg_some hF
        refine jv_getR hC fl_X11_19 dX11_spot_30 rfl g1 g16 ?_
        refine jv_iload_n hC 2 dX11_spot_33 rfl ?_
        refine jv_iload_n hC 3 dX11_spot_34 rfl ?_
        obtain ⟨r19, M18, c17, hF⟩ := hb_some hF
        refine jv_callS hC (st := [.ref (M13.2.2 v0 1)]) [.int v2, .int v3] (k_Ps_timeOf c17) mm_Ps_timeOf ms_Ps_timeOf ml_X11_148 dX11_spot_35 (Nat.le_of_ble_eq_true rfl) rfl rfl (Nat.le_of_ble_eq_true rfl) ?_
        refine jv_nf 38 [.int r19, .ref (M13.2.2 v0 1)] rfl rfl ?_
        obtain ⟨g20, hF⟩ := hg_some hF
        obtain ⟨M22, c21, hF⟩ := hv_some hF
        refine jv_callV hC (st := []) [.int r19] (k_Light_turnTo c21) mm_Light_turnTo mi_Light_turnTo ml_X11_152 dX11_spot_38 g20 rfl (Nat.le_of_ble_eq_true rfl) rfl rfl (Nat.le_of_ble_eq_true rfl) ?_
        refine jv_nf 41 [] rfl rfl ?_
        refine jv_aload_n hC 0 dX11_spot_41 rfl ?_
        obtain ⟨g23, hF⟩ := hg_some hF
        refine jv_getR hC fl_X11_19 dX11_spot_42 rfl g1 g23 ?_
        obtain ⟨g24, hF⟩ := hg_some hF
        obtain ⟨g25, hF⟩ := hg_some hF
        refine jv_getR hC fl_X11_156 dX11_spot_45 rfl g24 g25 ?_
        refine jv_iload_n hC 1 dX11_spot_48 rfl ?_
        obtain ⟨g26, hF⟩ := hg_some hF
        obtain ⟨n27, sn27, in27⟩ := hm_ib_ok g26
        refine jv_iaload hC dX11_spot_49 sn27 in27 ?_
        obtain ⟨rfl, rfl⟩ := hr_some hF
        exact jv_iret hC dX11_spot_50
      · have hF := hi_neg h15 hF
        refine jv_iconst hC dX11_spot_27 c32_m1 ?_
        obtain ⟨rfl, rfl⟩ := hr_some hF
        exact jv_iret hC dX11_spot_28
set_option maxRecDepth 100000 in
set_option maxHeartbeats 4000000 in
theorem s_Walk_keepColoured_2 {X : hm_X} {n : Nat} {S : hm_S} (hC : hm_C X RX9 cX9_keepColoured 9 none 5 n S) {k22 : Nat → Int32 → Nat → Int32 → Int32 → hm_M → Option hm_M} (hk22 : ∀ (v0 : Nat) (v1 : Int32) (v5 : Nat) (v6 : Int32) (v7 : Int32)  (M : hm_M) (M' : hm_M), k22 v0 v1 v5 v6 v7 M = some M' → hm_U X 22 [(0, .ref v0), (1, .int v1), (5, .ref v5), (6, .int v6), (7, .int v7)] [] M (hm_Q X none M')) {v0 : Nat} {v1 : Int32} {v5 : Nat} {v6 : Int32} {v7 : Int32} {M : hm_M} {M' : hm_M} (hF : b_Walk_keepColoured_2 S k22 v0 v1 v5 v6 v7 M = some M') : hm_U X 65 [(0, .ref v0), (1, .int v1), (5, .ref v5), (6, .int v6), (7, .int v7)] [] M (hm_Q X none M') := by
  unfold b_Walk_keepColoured_2 at hF
  refine jv_aload hC 2 dX9_keepColoured_65 rfl ?_
  refine jv_iload hC 4 dX9_keepColoured_67 rfl ?_
  refine jv_iconst hC dX9_keepColoured_69 c32_0 ?_
  obtain ⟨g1, hF⟩ := hg_some hF
  obtain ⟨n2, sn2, in2⟩ := hm_ib_ok g1
  refine jv_iastore hC dX9_keepColoured_70 sn2 in2 ?_
  obtain ⟨M3, e4, hF⟩ := hl_some hF
  refine jv_mem e4 ?_
  refine jv_iinc hC 4 [(7, .int (v7 + (1 : Int32))), (0, .ref v0), (1, .int v1), (5, .ref v5), (6, .int v6)] dX9_keepColoured_71 rfl c32_1 (by decide) rfl ?_
  refine jv_goto hC 22 dX9_keepColoured_74 (by decide) ?_
  refine jv_sub [1, 2, 3, 4, 0] (ls' := [(0, .ref v0), (1, .int v1), (5, .ref v5), (6, .int v6), (7, .int (v7 + (1 : Int32)))]) rfl ?_
  exact jv_pc 22 rfl (hk22 _ _ _ _ _ _ _ hF)
set_option maxRecDepth 100000 in
set_option maxHeartbeats 4000000 in
theorem t_Walk_keepColoured_1 {X : hm_X} {n : Nat} {S : hm_S} (hC : hm_C X RX9 cX9_keepColoured 9 none 5 n S) {k22 : Nat → Int32 → Nat → Int32 → Int32 → hm_M → Option hm_M} (hk22 : ∀ (v0 : Nat) (v1 : Int32) (v5 : Nat) (v6 : Int32) (v7 : Int32)  (M : hm_M) (M' : hm_M), k22 v0 v1 v5 v6 v7 M = some M' → hm_U X 22 [(0, .ref v0), (1, .int v1), (5, .ref v5), (6, .int v6), (7, .int v7)] [] M (hm_Q X none M')) {v0 : Nat} {v1 : Int32} {v5 : Nat} {v6 : Int32} {v7 : Int32} {M : hm_M} {M' : hm_M} (hF : b_Walk_keepColoured_1 S k22 v0 v1 v5 v6 v7 M = some M') : hm_U X 22 [(0, .ref v0), (1, .int v1), (5, .ref v5), (6, .int v6), (7, .int v7)] [] M (hm_Q X none M') := by
  unfold b_Walk_keepColoured_1 at hF
  refine jv_iload hC 4 dX9_keepColoured_22 rfl ?_
  refine jv_bipush hC dX9_keepColoured_24 c8_64 ?_
  refine jv_icmp_ge hC 77 dX9_keepColoured_26 (by decide) (fun h1 => ?_) (fun h1 => ?_)
  · have hF := hi_pos h1 hF
    obtain rfl := hr_somev hF
    exact jv_vret hC dX9_keepColoured_77
  · have hF := hi_neg h1 hF
    refine jv_aload_n hC 0 dX9_keepColoured_29 rfl ?_
    obtain ⟨g2, hF⟩ := hg_some hF
    obtain ⟨g3, hF⟩ := hg_some hF
    refine jv_getR hC fl_X9_57 dX9_keepColoured_30 rfl g2 g3 ?_
    refine jv_iload hC 4 dX9_keepColoured_33 rfl ?_
    refine jv_bipush hC dX9_keepColoured_35 c8_8 ?_
    refine jv_irem hC dX9_keepColoured_37 (by decide) ?_
    refine jv_iload hC 4 dX9_keepColoured_38 rfl ?_
    refine jv_bipush hC dX9_keepColoured_40 c8_8 ?_
    refine jv_pc 42 rfl ?_
    refine jv_idiv hC dX9_keepColoured_42 (by decide) ?_
    obtain ⟨g4, hF⟩ := hg_some hF
    obtain ⟨r7, M6, c5, hF⟩ := hb_some hF
    refine jv_callV hC (st := []) [.int (v7 - v7 / (8 : Int32) * (8 : Int32)), .int (v7 / (8 : Int32))] (k_Chapel_hasPlace c5) mm_Chapel_hasPlace mi_Chapel_hasPlace ml_X9_61 dX9_keepColoured_43 g4 rfl (Nat.le_of_ble_eq_true rfl) rfl rfl (Nat.le_of_ble_eq_true rfl) ?_
    refine jv_nf 46 [.int r7] rfl rfl ?_
    refine jv_istore hC [(8, .int r7), (0, .ref v0), (1, .int v1), (5, .ref v5), (6, .int v6), (7, .int v7)] dX9_keepColoured_46 (by decide) rfl ?_
    refine jv_iload hC 0 dX9_keepColoured_48 rfl ?_
    refine jv_if_eq hC 65 dX9_keepColoured_50 (by decide) (fun h8 => ?_) (fun h8 => ?_)
    · have hF := hi_pos h8 hF
      refine jv_sub [1, 2, 3, 4, 5] (ls' := [(0, .ref v0), (1, .int v1), (5, .ref v5), (6, .int v6), (7, .int v7)]) rfl ?_
      exact jv_pc 65 rfl (s_Walk_keepColoured_2 hC hk22 hF)
    · have hF := hi_neg h8 hF
      refine jv_aload_n hC 1 dX9_keepColoured_53 rfl ?_
      refine jv_iload hC 5 dX9_keepColoured_54 rfl ?_
      refine jv_iload_n hC 2 dX9_keepColoured_56 rfl ?_
      obtain ⟨r11, M10, c9, hF⟩ := hb_some hF
      refine jv_callV hC (st := []) [.int v7, .int v1] (k_Light_colourOn c9) mm_Light_colourOn mi_Light_colourOn ml_X9_67 dX9_keepColoured_57 g2 rfl (Nat.le_of_ble_eq_true rfl) rfl rfl (Nat.le_of_ble_eq_true rfl) ?_
      refine jv_nf 60 [.int r11] rfl rfl ?_
      refine jv_iload hC 4 dX9_keepColoured_60 rfl ?_
      refine jv_icmp_eq hC 71 dX9_keepColoured_62 (by decide) (fun h12 => ?_) (fun h12 => ?_)
      · have hF := hi_pos h12 hF
        refine jv_iinc hC 5 [(7, .int (v7 + (1 : Int32))), (8, .int r7), (0, .ref v0), (1, .int v1), (5, .ref v5), (6, .int v6)] dX9_keepColoured_71 rfl c32_1 (by decide) rfl ?_
        refine jv_goto hC 22 dX9_keepColoured_74 (by decide) ?_
        refine jv_sub [2, 3, 4, 5, 0] (ls' := [(0, .ref v0), (1, .int v1), (5, .ref v5), (6, .int v6), (7, .int (v7 + (1 : Int32)))]) rfl ?_
        exact jv_pc 22 rfl (hk22 _ _ _ _ _ _ _ hF)
      · have hF := hi_neg h12 hF
        refine jv_sub [1, 2, 3, 4, 5] (ls' := [(0, .ref v0), (1, .int v1), (5, .ref v5), (6, .int v6), (7, .int v7)]) rfl ?_
        exact jv_pc 65 rfl (s_Walk_keepColoured_2 hC hk22 hF)
theorem s_Walk_keepColoured_1 {X : hm_X} {n : Nat} {S : hm_S} (hC : hm_C X RX9 cX9_keepColoured 9 none 5 n S) : ∀ (q : Nat) (v0 : Nat) (v1 : Int32) (v5 : Nat) (v6 : Int32) (v7 : Int32) (M : hm_M) (M' : hm_M), f_Walk_keepColoured_1 S  q v0 v1 v5 v6 v7 M = some M' → hm_U X 22 [(0, .ref v0), (1, .int v1), (5, .ref v5), (6, .int v6), (7, .int v7)] [] M (hm_Q X none M') := by
  intro q
  induction q with
  | zero => intro v0 v1 v5 v6 v7 M M' hF; cases hF
  | succ q ih => intro v0 v1 v5 v6 v7 M M' hF; exact t_Walk_keepColoured_1 hC ih hF
set_option maxRecDepth 100000 in
set_option maxHeartbeats 4000000 in
theorem k_Walk_keepColoured {n : Nat} {S : hm_S} {v0 : Nat} {v1 : Int32} {v2 : Int32} {v3 : Int32} {v4 : Int32} {v5 : Nat} {M : hm_M} {M' : hm_M} (hF : f_Walk_keepColoured S v0 v1 v2 v3 v4 v5 M = some M') : hm_KM yX9_keepColoured cX9_keepColoured 9 none 5 n S [.ref v0, .int v1, .int v2, .int v3, .int v4, .ref v5] M none M' := by
  refine hm_enter mm_Walk_keepColoured (Nat.le_of_ble_eq_true rfl) (fun X hC => ?_)
  show hm_U X 0 [(0, .ref v0), (1, .int v1), (2, .int v2), (3, .int v3), (4, .int v4), (5, .ref v5)] [] M _
  unfold f_Walk_keepColoured at hF
  refine jv_aload_n hC 0 dX9_keepColoured_0 rfl ?_
  refine jv_iload_n hC 2 dX9_keepColoured_1 rfl ?_
  refine jv_iload hC 4 dX9_keepColoured_2 rfl ?_
  refine jv_iadd hC dX9_keepColoured_4 ?_
  obtain ⟨g1, hF⟩ := hg_some hF
  obtain ⟨M3, c2, hF⟩ := hv_some hF
  refine jv_callV hC (st := []) [.int (v2 + v4)] (k_Light_turnTo c2) mm_Light_turnTo mi_Light_turnTo ml_X9_51 dX9_keepColoured_5 g1 rfl (Nat.le_of_ble_eq_true rfl) rfl rfl (Nat.le_of_ble_eq_true rfl) ?_
  refine jv_nf 8 [] rfl rfl ?_
  refine jv_iload_n hC 3 dX9_keepColoured_8 rfl ?_
  refine jv_iconst hC dX9_keepColoured_9 c32_3 ?_
  refine jv_iload hC 4 dX9_keepColoured_10 rfl ?_
  refine jv_imul hC dX9_keepColoured_12 ?_
  refine jv_ishr hC dX9_keepColoured_13 ?_
  refine jv_bipush hC dX9_keepColoured_14 c8_7 ?_
  refine jv_iand hC dX9_keepColoured_16 ?_
  refine jv_pc 17 rfl ?_
  obtain ⟨x4, e5, hF⟩ := hl_some hF
  refine jv_topI e5 ?_
  refine jv_istore hC [(6, .int x4), (0, .ref v0), (1, .int v1), (2, .int v2), (3, .int v3), (4, .int v4), (5, .ref v5)] dX9_keepColoured_17 (by decide) rfl ?_
  refine jv_sub [0, 1, 2, 6] (ls' := [(6, .int x4), (0, .ref v0), (1, .int v1), (5, .ref v5)]) rfl ?_
  refine jv_iconst hC dX9_keepColoured_19 c32_0 ?_
  refine jv_istore hC [(7, .int (0 : Int32)), (6, .int x4), (0, .ref v0), (1, .int v1), (5, .ref v5)] dX9_keepColoured_20 (by decide) rfl ?_
  refine jv_sub [2, 3, 4, 1, 0] (ls' := [(0, .ref v0), (1, .int v1), (5, .ref v5), (6, .int x4), (7, .int (0 : Int32))]) rfl ?_
  exact jv_pc 22 rfl (s_Walk_keepColoured_1 hC hN _ _ _ _ _ _ _ hF)
set_option maxRecDepth 100000 in
set_option maxHeartbeats 4000000 in
theorem s_Walk_waysAround_4 {X : hm_X} {n : Nat} {S : hm_S} (hC : hm_C X RX9 cX9_waysAround 3 (some .int) 1 n S) {s0 : Int32} {s1 : Int32} {M : hm_M} {r : Int32} {M' : hm_M} (hF : b_Walk_waysAround_4 S s0 s1 M = some (r, M')) : hm_U X 80 [] [.int s0, .int s1] M (hm_Q X (some (.int r)) M') := by
  unfold b_Walk_waysAround_4 at hF
  refine jv_iadd hC dX9_waysAround_80 ?_
  obtain ⟨x1, e2, hF⟩ := hl_some hF
  refine jv_topI e2 ?_
  refine jv_istore_n hC [(2, .int x1)] dX9_waysAround_81 (by decide) rfl ?_
  refine jv_iload_n hC 0 dX9_waysAround_82 rfl ?_
  obtain ⟨rfl, rfl⟩ := hr_some hF
  exact jv_iret hC dX9_waysAround_83
set_option maxRecDepth 100000 in
set_option maxHeartbeats 4000000 in
theorem s_Walk_waysAround_3 {X : hm_X} {n : Nat} {S : hm_S} (hC : hm_C X RX9 cX9_waysAround 3 (some .int) 1 n S) {v0 : Nat} {v1 : Int32} {s0 : Int32} {s1 : Int32} {M : hm_M} {r : Int32} {M' : hm_M} (hF : b_Walk_waysAround_3 S v0 v1 s0 s1 M = some (r, M')) : hm_U X 61 [(0, .ref v0), (1, .int v1)] [.int s0, .int s1] M (hm_Q X (some (.int r)) M') := by
  unfold b_Walk_waysAround_3 at hF
  refine jv_iadd hC dX9_waysAround_61 ?_
  obtain ⟨x1, e2, hF⟩ := hl_some hF
  refine jv_topI e2 ?_
  refine jv_istore_n hC [(2, .int x1), (0, .ref v0), (1, .int v1)] dX9_waysAround_62 (by decide) rfl ?_
  refine jv_iload_n hC 0 dX9_waysAround_63 rfl ?_
  refine jv_iload_n hC 2 dX9_waysAround_64 rfl ?_
  refine jv_bipush hC dX9_waysAround_65 c8_56 ?_
  refine jv_icmp_ge hC 79 dX9_waysAround_67 (by decide) (fun h3 => ?_) (fun h3 => ?_)
  · have hF := hi_pos h3 hF
    refine jv_iconst hC dX9_waysAround_79 c32_0 ?_
    refine jv_sub [] (ls' := []) rfl ?_
    exact jv_pc 80 rfl (s_Walk_waysAround_4 hC hF)
  · have hF := hi_neg h3 hF
    refine jv_aload_n hC 1 dX9_waysAround_70 rfl ?_
    refine jv_iload_n hC 2 dX9_waysAround_71 rfl ?_
    refine jv_bipush hC dX9_waysAround_72 c8_8 ?_
    refine jv_iadd hC dX9_waysAround_74 ?_
    obtain ⟨g4, hF⟩ := hg_some hF
    obtain ⟨n5, sn5, in5⟩ := hm_ib_ok g4
    refine jv_iaload hC dX9_waysAround_75 sn5 in5 ?_
    refine jv_goto hC 80 dX9_waysAround_76 (by decide) ?_
    refine jv_sub [] (ls' := []) rfl ?_
    exact jv_pc 80 rfl (s_Walk_waysAround_4 hC hF)
set_option maxRecDepth 100000 in
set_option maxHeartbeats 4000000 in
theorem s_Walk_waysAround_2 {X : hm_X} {n : Nat} {S : hm_S} (hC : hm_C X RX9 cX9_waysAround 3 (some .int) 1 n S) {v0 : Nat} {v1 : Int32} {s0 : Int32} {s1 : Int32} {M : hm_M} {r : Int32} {M' : hm_M} (hF : b_Walk_waysAround_2 S v0 v1 s0 s1 M = some (r, M')) : hm_U X 42 [(0, .ref v0), (1, .int v1)] [.int s0, .int s1] M (hm_Q X (some (.int r)) M') := by
  unfold b_Walk_waysAround_2 at hF
  refine jv_iadd hC dX9_waysAround_42 ?_
  obtain ⟨x1, e2, hF⟩ := hl_some hF
  refine jv_topI e2 ?_
  refine jv_istore_n hC [(2, .int x1), (0, .ref v0), (1, .int v1)] dX9_waysAround_43 (by decide) rfl ?_
  refine jv_iload_n hC 0 dX9_waysAround_44 rfl ?_
  refine jv_iload_n hC 2 dX9_waysAround_45 rfl ?_
  refine jv_bipush hC dX9_waysAround_46 c8_8 ?_
  refine jv_icmp_lt hC 60 dX9_waysAround_48 (by decide) (fun h3 => ?_) (fun h3 => ?_)
  · have hF := hi_pos h3 hF
    refine jv_iconst hC dX9_waysAround_60 c32_0 ?_
    refine jv_sub [1, 2] (ls' := [(0, .ref v0), (1, .int v1)]) rfl ?_
    exact jv_pc 61 rfl (s_Walk_waysAround_3 hC hF)
  · have hF := hi_neg h3 hF
    refine jv_aload_n hC 1 dX9_waysAround_51 rfl ?_
    refine jv_iload_n hC 2 dX9_waysAround_52 rfl ?_
    refine jv_bipush hC dX9_waysAround_53 c8_8 ?_
    refine jv_isub hC dX9_waysAround_55 ?_
    obtain ⟨g4, hF⟩ := hg_some hF
    obtain ⟨n5, sn5, in5⟩ := hm_ib_ok g4
    refine jv_iaload hC dX9_waysAround_56 sn5 in5 ?_
    refine jv_goto hC 61 dX9_waysAround_57 (by decide) ?_
    refine jv_sub [1, 2] (ls' := [(0, .ref v0), (1, .int v1)]) rfl ?_
    exact jv_pc 61 rfl (s_Walk_waysAround_3 hC hF)
set_option maxRecDepth 100000 in
set_option maxHeartbeats 4000000 in
theorem s_Walk_waysAround_1 {X : hm_X} {n : Nat} {S : hm_S} (hC : hm_C X RX9 cX9_waysAround 3 (some .int) 1 n S) {v0 : Nat} {v1 : Int32} {s0 : Int32} {s1 : Int32} {M : hm_M} {r : Int32} {M' : hm_M} (hF : b_Walk_waysAround_1 S v0 v1 s0 s1 M = some (r, M')) : hm_U X 21 [(0, .ref v0), (1, .int v1)] [.int s0, .int s1] M (hm_Q X (some (.int r)) M') := by
  unfold b_Walk_waysAround_1 at hF
  refine jv_iadd hC dX9_waysAround_21 ?_
  obtain ⟨x1, e2, hF⟩ := hl_some hF
  refine jv_topI e2 ?_
  refine jv_istore_n hC [(2, .int x1), (0, .ref v0), (1, .int v1)] dX9_waysAround_22 (by decide) rfl ?_
  refine jv_iload_n hC 0 dX9_waysAround_23 rfl ?_
  refine jv_iload_n hC 2 dX9_waysAround_24 rfl ?_
  refine jv_bipush hC dX9_waysAround_25 c8_8 ?_
  refine jv_irem hC dX9_waysAround_27 (by decide) ?_
  refine jv_bipush hC dX9_waysAround_28 c8_7 ?_
  refine jv_pc 30 rfl ?_
  refine jv_icmp_ge hC 41 dX9_waysAround_30 (by decide) (fun h3 => ?_) (fun h3 => ?_)
  · have hF := hi_pos h3 hF
    refine jv_iconst hC dX9_waysAround_41 c32_0 ?_
    refine jv_sub [1, 2] (ls' := [(0, .ref v0), (1, .int v1)]) rfl ?_
    exact jv_pc 42 rfl (s_Walk_waysAround_2 hC hF)
  · have hF := hi_neg h3 hF
    refine jv_aload_n hC 1 dX9_waysAround_33 rfl ?_
    refine jv_iload_n hC 2 dX9_waysAround_34 rfl ?_
    refine jv_iconst hC dX9_waysAround_35 c32_1 ?_
    refine jv_iadd hC dX9_waysAround_36 ?_
    obtain ⟨g4, hF⟩ := hg_some hF
    obtain ⟨n5, sn5, in5⟩ := hm_ib_ok g4
    refine jv_iaload hC dX9_waysAround_37 sn5 in5 ?_
    refine jv_goto hC 42 dX9_waysAround_38 (by decide) ?_
    refine jv_sub [1, 2] (ls' := [(0, .ref v0), (1, .int v1)]) rfl ?_
    exact jv_pc 42 rfl (s_Walk_waysAround_2 hC hF)
set_option maxRecDepth 100000 in
set_option maxHeartbeats 4000000 in
theorem k_Walk_waysAround {n : Nat} {S : hm_S} {v0 : Nat} {v1 : Int32} {M : hm_M} {r : Int32} {M' : hm_M} (hF : f_Walk_waysAround S v0 v1 M = some (r, M')) : hm_KM yX9_waysAround cX9_waysAround 3 (some .int) 1 n S [.ref v0, .int v1] M (some (.int r)) M' := by
  refine hm_enter mm_Walk_waysAround (Nat.le_of_ble_eq_true rfl) (fun X hC => ?_)
  show hm_U X 0 [(0, .ref v0), (1, .int v1)] [] M _
  unfold f_Walk_waysAround at hF
  refine jv_aload_n hC 0 dX9_waysAround_0 rfl ?_
  refine jv_iload_n hC 1 dX9_waysAround_1 rfl ?_
  obtain ⟨g1, hF⟩ := hg_some hF
  obtain ⟨n2, sn2, in2⟩ := hm_ib_ok g1
  refine jv_iaload hC dX9_waysAround_2 sn2 in2 ?_
  obtain ⟨x3, e4, hF⟩ := hl_some hF
  refine jv_topI e4 ?_
  refine jv_istore_n hC [(2, .int x3), (0, .ref v0), (1, .int v1)] dX9_waysAround_3 (by decide) rfl ?_
  refine jv_iload_n hC 0 dX9_waysAround_4 rfl ?_
  refine jv_iload_n hC 2 dX9_waysAround_5 rfl ?_
  refine jv_bipush hC dX9_waysAround_6 c8_8 ?_
  refine jv_pc 8 rfl ?_
  refine jv_irem hC dX9_waysAround_8 (by decide) ?_
  refine jv_if_le hC 20 dX9_waysAround_9 (by decide) (fun h5 => ?_) (fun h5 => ?_)
  · have hF := hi_pos h5 hF
    refine jv_iconst hC dX9_waysAround_20 c32_0 ?_
    refine jv_sub [1, 2] (ls' := [(0, .ref v0), (1, .int v1)]) rfl ?_
    exact jv_pc 21 rfl (s_Walk_waysAround_1 hC hF)
  · have hF := hi_neg h5 hF
    refine jv_aload_n hC 1 dX9_waysAround_12 rfl ?_
    refine jv_iload_n hC 2 dX9_waysAround_13 rfl ?_
    refine jv_iconst hC dX9_waysAround_14 c32_1 ?_
    refine jv_isub hC dX9_waysAround_15 ?_
    obtain ⟨g6, hF⟩ := hg_some hF
    obtain ⟨n7, sn7, in7⟩ := hm_ib_ok g6
    refine jv_iaload hC dX9_waysAround_16 sn7 in7 ?_
    refine jv_goto hC 21 dX9_waysAround_17 (by decide) ?_
    refine jv_sub [1, 2] (ls' := [(0, .ref v0), (1, .int v1)]) rfl ?_
    exact jv_pc 21 rfl (s_Walk_waysAround_1 hC hF)
set_option maxRecDepth 100000 in
set_option maxHeartbeats 4000000 in
theorem t_Walk_go_3 {X : hm_X} {n : Nat} {S : hm_S} (hC : hm_C X RX9 cX9_go 11 none 6 n S) {k35 : Nat → Nat → Int32 → Int32 → Int32 → Int32 → Int32 → Nat → Int32 → Int32 → hm_M → Option hm_M} (hk35 : ∀ (v0 : Nat) (v1 : Nat) (v2 : Int32) (v3 : Int32) (v4 : Int32) (v5 : Int32) (v6 : Int32) (v7 : Nat) (v8 : Int32) (v9 : Int32)  (M : hm_M) (M' : hm_M), k35 v0 v1 v2 v3 v4 v5 v6 v7 v8 v9 M = some M' → hm_U X 35 [(0, .ref v0), (1, .ref v1), (2, .int v2), (3, .int v3), (4, .int v4), (5, .int v5), (6, .int v6), (7, .ref v7), (8, .int v8), (9, .int v9)] [] M (hm_Q X none M')) {k51 : Nat → Nat → Int32 → Int32 → Int32 → Int32 → Int32 → Nat → Int32 → Int32 → Int32 → hm_M → Option hm_M} (hk51 : ∀ (v0 : Nat) (v1 : Nat) (v2 : Int32) (v3 : Int32) (v4 : Int32) (v5 : Int32) (v6 : Int32) (v7 : Nat) (v8 : Int32) (v9 : Int32) (v10 : Int32)  (M : hm_M) (M' : hm_M), k51 v0 v1 v2 v3 v4 v5 v6 v7 v8 v9 v10 M = some M' → hm_U X 51 [(0, .ref v0), (1, .ref v1), (2, .int v2), (3, .int v3), (4, .int v4), (5, .int v5), (6, .int v6), (7, .ref v7), (8, .int v8), (9, .int v9), (10, .int v10)] [] M (hm_Q X none M')) {v0 : Nat} {v1 : Nat} {v2 : Int32} {v3 : Int32} {v4 : Int32} {v5 : Int32} {v6 : Int32} {v7 : Nat} {v8 : Int32} {v9 : Int32} {v10 : Int32} {M : hm_M} {M' : hm_M} (hF : b_Walk_go_3 S k35 k51 v0 v1 v2 v3 v4 v5 v6 v7 v8 v9 v10 M = some M') : hm_U X 51 [(0, .ref v0), (1, .ref v1), (2, .int v2), (3, .int v3), (4, .int v4), (5, .int v5), (6, .int v6), (7, .ref v7), (8, .int v8), (9, .int v9), (10, .int v10)] [] M (hm_Q X none M') := by
  unfold b_Walk_go_3 at hF
  refine jv_iload hC 10 dX9_go_51 rfl ?_
  refine jv_bipush hC dX9_go_53 c8_64 ?_
  refine jv_icmp_ge hC 78 dX9_go_55 (by decide) (fun h1 => ?_) (fun h1 => ?_)
  · have hF := hi_pos h1 hF
    refine jv_aload_n hC 0 dX9_go_78 rfl ?_
    obtain ⟨g2, hF⟩ := hg_some hF
    obtain ⟨g3, hF⟩ := hg_some hF
    refine jv_getR hC fl_X9_18 dX9_go_79 rfl g2 g3 ?_
    refine jv_iconst hC dX9_go_82 c32_0 ?_
    refine jv_aload hC 7 dX9_go_83 rfl ?_
    refine jv_iconst hC dX9_go_85 c32_0 ?_
    refine jv_bipush hC dX9_go_86 c8_64 ?_
    obtain ⟨g4, hF⟩ := hg_some hF
    refine jv_copy hC dX9_go_88 g4 ?_
    obtain ⟨M5, e6, hF⟩ := hl_some hF
    refine jv_mem e6 ?_
    refine jv_pc 91 rfl ?_
    refine jv_aload_n hC 1 dX9_go_91 rfl ?_
    refine jv_iload_n hC 2 dX9_go_92 rfl ?_
    refine jv_iload_n hC 3 dX9_go_93 rfl ?_
    refine jv_iload hC 4 dX9_go_94 rfl ?_
    refine jv_iload hC 5 dX9_go_96 rfl ?_
    refine jv_iload hC 9 dX9_go_98 rfl ?_
    refine jv_iload hC 8 dX9_go_100 rfl ?_
    refine jv_imul hC dX9_go_102 ?_
    refine jv_pc 103 rfl ?_
    refine jv_iadd hC dX9_go_103 ?_
    refine jv_aload hC 7 dX9_go_104 rfl ?_
    obtain ⟨M8, c7, hF⟩ := hv_some hF
    refine jv_callS hC (st := []) [.ref v1, .int v2, .int v3, .int v4, .int (v5 + (v9 * v8)), .ref v7] (k_Walk_keepColoured c7) mm_Walk_keepColoured ms_Walk_keepColoured ml_X9_31 dX9_go_106 (Nat.le_of_ble_eq_true rfl) rfl rfl (Nat.le_of_ble_eq_true rfl) ?_
    refine jv_nf 109 [] rfl rfl ?_
    refine jv_iinc hC 9 [(9, .int (v9 + (1 : Int32))), (0, .ref v0), (1, .ref v1), (2, .int v2), (3, .int v3), (4, .int v4), (5, .int v5), (6, .int v6), (7, .ref v7), (8, .int v8), (10, .int v10)] dX9_go_109 rfl c32_1 (by decide) rfl ?_
    refine jv_goto hC 35 dX9_go_112 (by decide) ?_
    refine jv_sub [1, 2, 3, 4, 5, 6, 7, 8, 9, 0] (ls' := [(0, .ref v0), (1, .ref v1), (2, .int v2), (3, .int v3), (4, .int v4), (5, .int v5), (6, .int v6), (7, .ref v7), (8, .int v8), (9, .int (v9 + (1 : Int32)))]) rfl ?_
    exact jv_pc 35 rfl (hk35 _ _ _ _ _ _ _ _ _ _ _ _ hF)
  · have hF := hi_neg h1 hF
    refine jv_aload_n hC 0 dX9_go_58 rfl ?_
    obtain ⟨g9, hF⟩ := hg_some hF
    obtain ⟨g10, hF⟩ := hg_some hF
    refine jv_getR hC fl_X9_18 dX9_go_59 rfl g9 g10 ?_
    refine jv_iload hC 10 dX9_go_62 rfl ?_
    refine jv_aload hC 7 dX9_go_64 rfl ?_
    refine jv_iload hC 10 dX9_go_66 rfl ?_
    obtain ⟨r13, M12, c11, hF⟩ := hb_some hF
    refine jv_callS hC (st := [.int v10, .ref (M.2.2 v0 2)]) [.ref v7, .int v10] (k_Walk_waysAround c11) mm_Walk_waysAround ms_Walk_waysAround ml_X9_41 dX9_go_68 (Nat.le_of_ble_eq_true rfl) rfl rfl (Nat.le_of_ble_eq_true rfl) ?_
    refine jv_nf 71 [.int r13, .int v10, .ref (M.2.2 v0 2)] rfl rfl ?_
    obtain ⟨g14, hF⟩ := hg_some hF
    obtain ⟨n15, sn15, in15⟩ := hm_ib_ok g14
    refine jv_iastore hC dX9_go_71 sn15 in15 ?_
    obtain ⟨M16, e17, hF⟩ := hl_some hF
    refine jv_mem e17 ?_
    refine jv_iinc hC 10 [(10, .int (v10 + (1 : Int32))), (0, .ref v0), (1, .ref v1), (2, .int v2), (3, .int v3), (4, .int v4), (5, .int v5), (6, .int v6), (7, .ref v7), (8, .int v8), (9, .int v9)] dX9_go_72 rfl c32_1 (by decide) rfl ?_
    refine jv_goto hC 51 dX9_go_75 (by decide) ?_
    refine jv_sub [1, 2, 3, 4, 5, 6, 7, 8, 9, 10, 0] (ls' := [(0, .ref v0), (1, .ref v1), (2, .int v2), (3, .int v3), (4, .int v4), (5, .int v5), (6, .int v6), (7, .ref v7), (8, .int v8), (9, .int v9), (10, .int (v10 + (1 : Int32)))]) rfl ?_
    exact jv_pc 51 rfl (hk51 _ _ _ _ _ _ _ _ _ _ _ _ _ hF)
theorem s_Walk_go_3 {X : hm_X} {n : Nat} {S : hm_S} (hC : hm_C X RX9 cX9_go 11 none 6 n S) {k35 : Nat → Nat → Int32 → Int32 → Int32 → Int32 → Int32 → Nat → Int32 → Int32 → hm_M → Option hm_M} (hk35 : ∀ (v0 : Nat) (v1 : Nat) (v2 : Int32) (v3 : Int32) (v4 : Int32) (v5 : Int32) (v6 : Int32) (v7 : Nat) (v8 : Int32) (v9 : Int32)  (M : hm_M) (M' : hm_M), k35 v0 v1 v2 v3 v4 v5 v6 v7 v8 v9 M = some M' → hm_U X 35 [(0, .ref v0), (1, .ref v1), (2, .int v2), (3, .int v3), (4, .int v4), (5, .int v5), (6, .int v6), (7, .ref v7), (8, .int v8), (9, .int v9)] [] M (hm_Q X none M')) : ∀ (q : Nat) (v0 : Nat) (v1 : Nat) (v2 : Int32) (v3 : Int32) (v4 : Int32) (v5 : Int32) (v6 : Int32) (v7 : Nat) (v8 : Int32) (v9 : Int32) (v10 : Int32) (M : hm_M) (M' : hm_M), f_Walk_go_3 S k35 q v0 v1 v2 v3 v4 v5 v6 v7 v8 v9 v10 M = some M' → hm_U X 51 [(0, .ref v0), (1, .ref v1), (2, .int v2), (3, .int v3), (4, .int v4), (5, .int v5), (6, .int v6), (7, .ref v7), (8, .int v8), (9, .int v9), (10, .int v10)] [] M (hm_Q X none M') := by
  intro q
  induction q with
  | zero => intro v0 v1 v2 v3 v4 v5 v6 v7 v8 v9 v10 M M' hF; cases hF
  | succ q ih => intro v0 v1 v2 v3 v4 v5 v6 v7 v8 v9 v10 M M' hF; exact t_Walk_go_3 hC hk35 ih hF
set_option maxRecDepth 100000 in
set_option maxHeartbeats 4000000 in
theorem t_Walk_go_2 {X : hm_X} {n : Nat} {S : hm_S} (hC : hm_C X RX9 cX9_go 11 none 6 n S) {k35 : Nat → Nat → Int32 → Int32 → Int32 → Int32 → Int32 → Nat → Int32 → Int32 → hm_M → Option hm_M} (hk35 : ∀ (v0 : Nat) (v1 : Nat) (v2 : Int32) (v3 : Int32) (v4 : Int32) (v5 : Int32) (v6 : Int32) (v7 : Nat) (v8 : Int32) (v9 : Int32)  (M : hm_M) (M' : hm_M), k35 v0 v1 v2 v3 v4 v5 v6 v7 v8 v9 M = some M' → hm_U X 35 [(0, .ref v0), (1, .ref v1), (2, .int v2), (3, .int v3), (4, .int v4), (5, .int v5), (6, .int v6), (7, .ref v7), (8, .int v8), (9, .int v9)] [] M (hm_Q X none M')) {v0 : Nat} {v1 : Nat} {v2 : Int32} {v3 : Int32} {v4 : Int32} {v5 : Int32} {v6 : Int32} {v7 : Nat} {v8 : Int32} {v9 : Int32} {M : hm_M} {M' : hm_M} (hF : b_Walk_go_2 S k35 v0 v1 v2 v3 v4 v5 v6 v7 v8 v9 M = some M') : hm_U X 35 [(0, .ref v0), (1, .ref v1), (2, .int v2), (3, .int v3), (4, .int v4), (5, .int v5), (6, .int v6), (7, .ref v7), (8, .int v8), (9, .int v9)] [] M (hm_Q X none M') := by
  unfold b_Walk_go_2 at hF
  refine jv_iload hC 9 dX9_go_35 rfl ?_
  refine jv_iload hC 6 dX9_go_37 rfl ?_
  refine jv_iload hC 5 dX9_go_39 rfl ?_
  refine jv_isub hC dX9_go_41 ?_
  refine jv_mabs hC ml_X9_35 dX9_go_42 (by omega) (Nat.le_of_ble_eq_true rfl) ?_
  refine jv_icmp_gt hC 115 dX9_go_45 (by decide) (fun h1 => ?_) (fun h1 => ?_)
  · have hF := hi_pos h1 hF
    obtain rfl := hr_somev hF
    exact jv_vret hC dX9_go_115
  · have hF := hi_neg h1 hF
    refine jv_iconst hC dX9_go_48 c32_0 ?_
    refine jv_istore hC [(10, .int (0 : Int32)), (0, .ref v0), (1, .ref v1), (2, .int v2), (3, .int v3), (4, .int v4), (5, .int v5), (6, .int v6), (7, .ref v7), (8, .int v8), (9, .int v9)] dX9_go_49 (by decide) rfl ?_
    refine jv_sub [1, 2, 3, 4, 5, 6, 7, 8, 9, 10, 0] (ls' := [(0, .ref v0), (1, .ref v1), (2, .int v2), (3, .int v3), (4, .int v4), (5, .int v5), (6, .int v6), (7, .ref v7), (8, .int v8), (9, .int v9), (10, .int (0 : Int32))]) rfl ?_
    exact jv_pc 51 rfl (s_Walk_go_3 hC hk35 hN _ _ _ _ _ _ _ _ _ _ _ _ _ hF)
theorem s_Walk_go_2 {X : hm_X} {n : Nat} {S : hm_S} (hC : hm_C X RX9 cX9_go 11 none 6 n S) : ∀ (q : Nat) (v0 : Nat) (v1 : Nat) (v2 : Int32) (v3 : Int32) (v4 : Int32) (v5 : Int32) (v6 : Int32) (v7 : Nat) (v8 : Int32) (v9 : Int32) (M : hm_M) (M' : hm_M), f_Walk_go_2 S  q v0 v1 v2 v3 v4 v5 v6 v7 v8 v9 M = some M' → hm_U X 35 [(0, .ref v0), (1, .ref v1), (2, .int v2), (3, .int v3), (4, .int v4), (5, .int v5), (6, .int v6), (7, .ref v7), (8, .int v8), (9, .int v9)] [] M (hm_Q X none M') := by
  intro q
  induction q with
  | zero => intro v0 v1 v2 v3 v4 v5 v6 v7 v8 v9 M M' hF; cases hF
  | succ q ih => intro v0 v1 v2 v3 v4 v5 v6 v7 v8 v9 M M' hF; exact t_Walk_go_2 hC ih hF
set_option maxRecDepth 100000 in
set_option maxHeartbeats 4000000 in
theorem s_Walk_go_1 {X : hm_X} {n : Nat} {S : hm_S} (hC : hm_C X RX9 cX9_go 11 none 6 n S) {v0 : Nat} {v1 : Nat} {v2 : Int32} {v3 : Int32} {v4 : Int32} {v5 : Int32} {v6 : Int32} {v7 : Nat} {s0 : Int32} {M : hm_M} {M' : hm_M} (hF : b_Walk_go_1 S v0 v1 v2 v3 v4 v5 v6 v7 s0 M = some M') : hm_U X 12 [(0, .ref v0), (1, .ref v1), (2, .int v2), (3, .int v3), (4, .int v4), (5, .int v5), (6, .int v6), (7, .ref v7)] [.int s0] M (hm_Q X none M') := by
  unfold b_Walk_go_1 at hF
  refine jv_istore hC [(8, .int s0), (0, .ref v0), (1, .ref v1), (2, .int v2), (3, .int v3), (4, .int v4), (5, .int v5), (6, .int v6), (7, .ref v7)] dX9_go_12 (by decide) rfl ?_
  refine jv_aload hC 8 dX9_go_14 rfl ?_
  refine jv_iconst hC dX9_go_16 c32_1 ?_
  obtain ⟨M2, c1, hF⟩ := hv_some hF
  refine jv_callS hC (st := []) [.ref v7, .int (1 : Int32)] (k_J7_fill_53178 c1) mm_J7_fill_53178 ms_J7_fill_53178 ml_X9_25 dX9_go_17 (Nat.le_of_ble_eq_true rfl) rfl rfl (Nat.le_of_ble_eq_true rfl) ?_
  refine jv_nf 20 [] rfl rfl ?_
  refine jv_aload_n hC 2 dX9_go_20 rfl ?_
  refine jv_iload_n hC 3 dX9_go_21 rfl ?_
  refine jv_iload_n hC 4 dX9_go_22 rfl ?_
  refine jv_iload hC 5 dX9_go_23 rfl ?_
  refine jv_iload hC 6 dX9_go_25 rfl ?_
  refine jv_aload hC 8 dX9_go_27 rfl ?_
  obtain ⟨M4, c3, hF⟩ := hv_some hF
  refine jv_callS hC (st := []) [.ref v1, .int v2, .int v3, .int v4, .int v5, .ref v7] (k_Walk_keepColoured c3) mm_Walk_keepColoured ms_Walk_keepColoured ml_X9_31 dX9_go_29 (Nat.le_of_ble_eq_true rfl) rfl rfl (Nat.le_of_ble_eq_true rfl) ?_
  refine jv_nf 32 [] rfl rfl ?_
  refine jv_iconst hC dX9_go_32 c32_1 ?_
  refine jv_istore hC [(9, .int (1 : Int32)), (8, .int s0), (0, .ref v0), (1, .ref v1), (2, .int v2), (3, .int v3), (4, .int v4), (5, .int v5), (6, .int v6), (7, .ref v7)] dX9_go_33 (by decide) rfl ?_
  refine jv_sub [2, 3, 4, 5, 6, 7, 8, 9, 1, 0] (ls' := [(0, .ref v0), (1, .ref v1), (2, .int v2), (3, .int v3), (4, .int v4), (5, .int v5), (6, .int v6), (7, .ref v7), (8, .int s0), (9, .int (1 : Int32))]) rfl ?_
  exact jv_pc 35 rfl (s_Walk_go_2 hC hN _ _ _ _ _ _ _ _ _ _ _ _ hF)
