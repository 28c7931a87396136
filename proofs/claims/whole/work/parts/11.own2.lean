/-! by program: the machine runs them -/
set_option maxRecDepth 100000 in
set_option maxHeartbeats 4000000 in
theorem t_Rents_shareOut_2 {X : hm_X} {n : Nat} {S : hm_S} (hC : hm_C X RX6 cX6_shareOut 9 none 4 n S) {k6 : Nat → Nat → Int32 → Int32 → Int32 → Int32 → hm_M → Option hm_M} (hk6 : ∀ (v0 : Nat) (v1 : Nat) (v2 : Int32) (v3 : Int32) (v4 : Int32) (v5 : Int32)  (M : hm_M) (M' : hm_M), k6 v0 v1 v2 v3 v4 v5 M = some M' → hm_U X 6 [(0, .ref v0), (1, .ref v1), (2, .int v2), (3, .int v3), (4, .int v4), (5, .int v5)] [] M (hm_Q X none M')) {k82 : Nat → Nat → Int32 → Int32 → Int32 → Int32 → Int32 → Int32 → Int32 → hm_M → Option hm_M} (hk82 : ∀ (v0 : Nat) (v1 : Nat) (v2 : Int32) (v3 : Int32) (v4 : Int32) (v5 : Int32) (v6 : Int32) (v7 : Int32) (v8 : Int32)  (M : hm_M) (M' : hm_M), k82 v0 v1 v2 v3 v4 v5 v6 v7 v8 M = some M' → hm_U X 82 [(0, .ref v0), (1, .ref v1), (2, .int v2), (3, .int v3), (4, .int v4), (5, .int v5), (6, .int v6), (7, .int v7), (8, .int v8)] [] M (hm_Q X none M')) {v0 : Nat} {v1 : Nat} {v2 : Int32} {v3 : Int32} {v4 : Int32} {v5 : Int32} {v6 : Int32} {v7 : Int32} {v8 : Int32} {M : hm_M} {M' : hm_M} (hF : b_Rents_shareOut_2 S k6 k82 v0 v1 v2 v3 v4 v5 v6 v7 v8 M = some M') : hm_U X 82 [(0, .ref v0), (1, .ref v1), (2, .int v2), (3, .int v3), (4, .int v4), (5, .int v5), (6, .int v6), (7, .int v7), (8, .int v8)] [] M (hm_Q X none M') := by
  unfold b_Rents_shareOut_2 at hF
  refine jv_iload hC 8 dX6_shareOut_82 rfl ?_
  refine jv_bipush hC dX6_shareOut_84 c8_12 ?_
  refine jv_icmp_ge hC 120 dX6_shareOut_86 (by decide) (fun h1 => ?_) (fun h1 => ?_)
  · have hF := hi_pos h1 hF
    refine jv_iload hC 4 dX6_shareOut_120 rfl ?_
    refine jv_iload hC 6 dX6_shareOut_122 rfl ?_
    refine jv_iconst hC dX6_shareOut_124 c32_m1 ?_
    refine jv_ixor hC dX6_shareOut_125 ?_
    refine jv_iand hC dX6_shareOut_126 ?_
    obtain ⟨x2, e3, hF⟩ := hl_some hF
    refine jv_topI e3 ?_
    refine jv_istore hC [(4, .int x2), (0, .ref v0), (1, .ref v1), (2, .int v2), (3, .int v3), (5, .int v5), (6, .int v6), (7, .int v7), (8, .int v8)] dX6_shareOut_127 (by decide) rfl ?_
    refine jv_sub [0, 1, 2, 3, 4, 5] (ls' := [(4, .int x2), (0, .ref v0), (1, .ref v1), (2, .int v2), (3, .int v3), (5, .int v5)]) rfl ?_
    refine jv_iinc hC 5 [(5, .int (v5 + (1 : Int32))), (4, .int x2), (0, .ref v0), (1, .ref v1), (2, .int v2), (3, .int v3)] dX6_shareOut_129 rfl c32_1 (by decide) rfl ?_
    refine jv_goto hC 6 dX6_shareOut_132 (by decide) ?_
    refine jv_sub [2, 3, 4, 5, 1, 0] (ls' := [(0, .ref v0), (1, .ref v1), (2, .int v2), (3, .int v3), (4, .int x2), (5, .int (v5 + (1 : Int32)))]) rfl ?_
    exact jv_pc 6 rfl (hk6 _ _ _ _ _ _ _ _ hF)
  · have hF := hi_neg h1 hF
    refine jv_aload_n hC 0 dX6_shareOut_89 rfl ?_
    obtain ⟨g4, hF⟩ := hg_some hF
    obtain ⟨g5, hF⟩ := hg_some hF
    refine jv_getR hC fl_X6_11 dX6_shareOut_90 rfl g4 g5 ?_
    refine jv_iload_n hC 3 dX6_shareOut_93 rfl ?_
    refine jv_bipush hC dX6_shareOut_94 c8_12 ?_
    refine jv_imul hC dX6_shareOut_96 ?_
    refine jv_iload hC 8 dX6_shareOut_97 rfl ?_
    refine jv_iadd hC dX6_shareOut_99 ?_
    refine jv_pc 100 rfl ?_
    refine jv_dup2 hC dX6_shareOut_100 rfl rfl ?_
    obtain ⟨g6, hF⟩ := hg_some hF
    obtain ⟨n7, sn7, in7⟩ := hm_ib_ok g6
    refine jv_iaload hC dX6_shareOut_101 sn7 in7 ?_
    refine jv_iload hC 6 dX6_shareOut_102 rfl ?_
    refine jv_iload hC 8 dX6_shareOut_104 rfl ?_
    refine jv_ishr hC dX6_shareOut_106 ?_
    refine jv_iconst hC dX6_shareOut_107 c32_1 ?_
    refine jv_iand hC dX6_shareOut_108 ?_
    refine jv_iload hC 7 dX6_shareOut_109 rfl ?_
    refine jv_pc 111 rfl ?_
    refine jv_imul hC dX6_shareOut_111 ?_
    refine jv_iadd hC dX6_shareOut_112 ?_
    refine jv_iastore hC dX6_shareOut_113 sn7 in7 ?_
    obtain ⟨M8, e9, hF⟩ := hl_some hF
    refine jv_mem e9 ?_
    refine jv_iinc hC 8 [(8, .int (v8 + (1 : Int32))), (0, .ref v0), (1, .ref v1), (2, .int v2), (3, .int v3), (4, .int v4), (5, .int v5), (6, .int v6), (7, .int v7)] dX6_shareOut_114 rfl c32_1 (by decide) rfl ?_
    refine jv_goto hC 82 dX6_shareOut_117 (by decide) ?_
    refine jv_sub [1, 2, 3, 4, 5, 6, 7, 8, 0] (ls' := [(0, .ref v0), (1, .ref v1), (2, .int v2), (3, .int v3), (4, .int v4), (5, .int v5), (6, .int v6), (7, .int v7), (8, .int (v8 + (1 : Int32)))]) rfl ?_
    exact jv_pc 82 rfl (hk82 _ _ _ _ _ _ _ _ _ _ _ hF)
theorem s_Rents_shareOut_2 {X : hm_X} {n : Nat} {S : hm_S} (hC : hm_C X RX6 cX6_shareOut 9 none 4 n S) {k6 : Nat → Nat → Int32 → Int32 → Int32 → Int32 → hm_M → Option hm_M} (hk6 : ∀ (v0 : Nat) (v1 : Nat) (v2 : Int32) (v3 : Int32) (v4 : Int32) (v5 : Int32)  (M : hm_M) (M' : hm_M), k6 v0 v1 v2 v3 v4 v5 M = some M' → hm_U X 6 [(0, .ref v0), (1, .ref v1), (2, .int v2), (3, .int v3), (4, .int v4), (5, .int v5)] [] M (hm_Q X none M')) : ∀ (q : Nat) (v0 : Nat) (v1 : Nat) (v2 : Int32) (v3 : Int32) (v4 : Int32) (v5 : Int32) (v6 : Int32) (v7 : Int32) (v8 : Int32) (M : hm_M) (M' : hm_M), f_Rents_shareOut_2 S k6 q v0 v1 v2 v3 v4 v5 v6 v7 v8 M = some M' → hm_U X 82 [(0, .ref v0), (1, .ref v1), (2, .int v2), (3, .int v3), (4, .int v4), (5, .int v5), (6, .int v6), (7, .int v7), (8, .int v8)] [] M (hm_Q X none M') := by
  intro q
  induction q with
  | zero => intro v0 v1 v2 v3 v4 v5 v6 v7 v8 M M' hF; cases hF
  | succ q ih => intro v0 v1 v2 v3 v4 v5 v6 v7 v8 M M' hF; exact t_Rents_shareOut_2 hC hk6 ih hF
set_option maxRecDepth 100000 in
set_option maxHeartbeats 4000000 in
theorem t_Rents_shareOut_1 {X : hm_X} {n : Nat} {S : hm_S} (hC : hm_C X RX6 cX6_shareOut 9 none 4 n S) {k6 : Nat → Nat → Int32 → Int32 → Int32 → Int32 → hm_M → Option hm_M} (hk6 : ∀ (v0 : Nat) (v1 : Nat) (v2 : Int32) (v3 : Int32) (v4 : Int32) (v5 : Int32)  (M : hm_M) (M' : hm_M), k6 v0 v1 v2 v3 v4 v5 M = some M' → hm_U X 6 [(0, .ref v0), (1, .ref v1), (2, .int v2), (3, .int v3), (4, .int v4), (5, .int v5)] [] M (hm_Q X none M')) {v0 : Nat} {v1 : Nat} {v2 : Int32} {v3 : Int32} {v4 : Int32} {v5 : Int32} {M : hm_M} {M' : hm_M} (hF : b_Rents_shareOut_1 S k6 v0 v1 v2 v3 v4 v5 M = some M') : hm_U X 6 [(0, .ref v0), (1, .ref v1), (2, .int v2), (3, .int v3), (4, .int v4), (5, .int v5)] [] M (hm_Q X none M') := by
  unfold b_Rents_shareOut_1 at hF
  refine jv_iload hC 5 dX6_shareOut_6 rfl ?_
  refine jv_bipush hC dX6_shareOut_8 c8_12 ?_
  refine jv_icmp_ge hC 135 dX6_shareOut_10 (by decide) (fun h1 => ?_) (fun h1 => ?_)
  · have hF := hi_pos h1 hF
    obtain rfl := hr_somev hF
    exact jv_vret hC dX6_shareOut_135
  · have hF := hi_neg h1 hF
    refine jv_iload hC 4 dX6_shareOut_13 rfl ?_
    refine jv_iload hC 5 dX6_shareOut_15 rfl ?_
    refine jv_ishr hC dX6_shareOut_17 ?_
    refine jv_iconst hC dX6_shareOut_18 c32_1 ?_
    refine jv_iand hC dX6_shareOut_19 ?_
    refine jv_iconst hC dX6_shareOut_20 c32_1 ?_
    refine jv_icmp_ne hC 129 dX6_shareOut_21 (by decide) (fun h2 => ?_) (fun h2 => ?_)
    · have hF := hi_neg h2 hF
      refine jv_iinc hC 5 [(5, .int (v5 + (1 : Int32))), (0, .ref v0), (1, .ref v1), (2, .int v2), (3, .int v3), (4, .int v4)] dX6_shareOut_129 rfl c32_1 (by decide) rfl ?_
      refine jv_goto hC 6 dX6_shareOut_132 (by decide) ?_
      refine jv_sub [1, 2, 3, 4, 5, 0] (ls' := [(0, .ref v0), (1, .ref v1), (2, .int v2), (3, .int v3), (4, .int v4), (5, .int (v5 + (1 : Int32)))]) rfl ?_
      exact jv_pc 6 rfl (hk6 _ _ _ _ _ _ _ _ hF)
    · have hF := hi_pos h2 hF
      refine jv_aload_n hC 1 dX6_shareOut_24 rfl ?_
      obtain ⟨g3, hF⟩ := hg_some hF
      obtain ⟨g4, hF⟩ := hg_some hF
      refine jv_getR hC fl_X6_91 dX6_shareOut_25 rfl g3 g4 ?_
      refine jv_iload hC 5 dX6_shareOut_28 rfl ?_
      obtain ⟨g5, hF⟩ := hg_some hF
      obtain ⟨n6, sn6, in6⟩ := hm_ib_ok g5
      refine jv_iaload hC dX6_shareOut_30 sn6 in6 ?_
      refine jv_iconst hC dX6_shareOut_31 c32_m1 ?_
      refine jv_icmp_eq hC 129 dX6_shareOut_32 (by decide) (fun h7 => ?_) (fun h7 => ?_)
      · have hF := hi_pos h7 hF
        refine jv_iinc hC 5 [(5, .int (v5 + (1 : Int32))), (0, .ref v0), (1, .ref v1), (2, .int v2), (3, .int v3), (4, .int v4)] dX6_shareOut_129 rfl c32_1 (by decide) rfl ?_
        refine jv_goto hC 6 dX6_shareOut_132 (by decide) ?_
        refine jv_sub [1, 2, 3, 4, 5, 0] (ls' := [(0, .ref v0), (1, .ref v1), (2, .int v2), (3, .int v3), (4, .int v4), (5, .int (v5 + (1 : Int32)))]) rfl ?_
        exact jv_pc 6 rfl (hk6 _ _ _ _ _ _ _ _ hF)
      · have hF := hi_neg h7 hF
        refine jv_aload_n hC 1 dX6_shareOut_35 rfl ?_
        refine jv_aload_n hC 1 dX6_shareOut_36 rfl ?_
        refine jv_getR hC fl_X6_91 dX6_shareOut_37 rfl g3 g4 ?_
        refine jv_iload hC 5 dX6_shareOut_40 rfl ?_
        refine jv_iaload hC dX6_shareOut_42 sn6 in6 ?_
        refine jv_iload_n hC 2 dX6_shareOut_43 rfl ?_
        obtain ⟨r10, M9, c8, hF⟩ := hb_some hF
        refine jv_callV hC (st := []) [.int (M.1 (M.2.2 v1 1) v5.toNatClampNeg), .int v2] (k_Light_panesOn c8) mm_Light_panesOn mi_Light_panesOn ml_X6_94 dX6_shareOut_44 g3 rfl (Nat.le_of_ble_eq_true rfl) rfl rfl (Nat.le_of_ble_eq_true rfl) ?_
        refine jv_nf 47 [.int r10] rfl rfl ?_
        refine jv_iconst hC dX6_shareOut_47 c32_1 ?_
        refine jv_iload hC 5 dX6_shareOut_48 rfl ?_
        refine jv_ishl hC dX6_shareOut_50 ?_
        refine jv_ior hC dX6_shareOut_51 ?_
        obtain ⟨x11, e12, hF⟩ := hl_some hF
        refine jv_topI e12 ?_
        refine jv_istore hC [(6, .int x11), (0, .ref v0), (1, .ref v1), (2, .int v2), (3, .int v3), (4, .int v4), (5, .int v5)] dX6_shareOut_52 (by decide) rfl ?_
        refine jv_aload_n hC 2 dX6_shareOut_54 rfl ?_
        obtain ⟨g13, hF⟩ := hg_some hF
        refine jv_getR hC fl_X6_64 dX6_shareOut_55 rfl g3 g13 ?_
        refine jv_pc 58 rfl ?_
        obtain ⟨g14, hF⟩ := hg_some hF
        obtain ⟨g15, hF⟩ := hg_some hF
        refine jv_getR hC fl_X6_97 dX6_shareOut_58 rfl g14 g15 ?_
        refine jv_aload_n hC 2 dX6_shareOut_61 rfl ?_
        obtain ⟨g16, hF⟩ := hg_some hF
        refine jv_getR hC fl_X6_91 dX6_shareOut_62 rfl g3 g16 ?_
        refine jv_iload hC 6 dX6_shareOut_65 rfl ?_
        obtain ⟨g17, hF⟩ := hg_some hF
        obtain ⟨n18, sn18, in18⟩ := hm_ib_ok g17
        refine jv_iaload hC dX6_shareOut_67 sn18 in18 ?_
        refine jv_iload hC 0 dX6_shareOut_68 rfl ?_
        obtain ⟨r21, M20, c19, hF⟩ := hb_some hF
        refine jv_callS hC (st := [.int (M9.1 (M9.2.2 v1 1) v5.toNatClampNeg), .ref (M9.2.2 (M9.2.2 v1 0) 12)]) [.int x11] (k_J6_bitCount_0f7a4 c19) mm_J6_bitCount_0f7a4 ms_J6_bitCount_0f7a4 ml_X6_40 dX6_shareOut_70 (Nat.le_of_ble_eq_true rfl) rfl rfl (Nat.le_of_ble_eq_true rfl) ?_
        refine jv_nf 73 [.int r21, .int (M9.1 (M9.2.2 v1 1) v5.toNatClampNeg), .ref (M9.2.2 (M9.2.2 v1 0) 12)] rfl rfl ?_
        obtain ⟨r24, M23, c22, hF⟩ := hb_some hF
        refine jv_callS hC (st := []) [.ref (M9.2.2 (M9.2.2 v1 0) 12), .int (M9.1 (M9.2.2 v1 1) v5.toNatClampNeg), .int r21] (k_Rents_partOf c22) mm_Rents_partOf ms_Rents_partOf ml_X6_101 dX6_shareOut_73 (Nat.le_of_ble_eq_true rfl) rfl rfl (Nat.le_of_ble_eq_true rfl) ?_
        refine jv_nf 76 [.int r24] rfl rfl ?_
        refine jv_istore hC [(7, .int r24), (6, .int x11), (0, .ref v0), (1, .ref v1), (2, .int v2), (3, .int v3), (4, .int v4), (5, .int v5)] dX6_shareOut_76 (by decide) rfl ?_
        refine jv_iload hC 7 dX6_shareOut_78 rfl ?_
        refine jv_istore hC [(8, .int v5), (7, .int r24), (6, .int x11), (0, .ref v0), (1, .ref v1), (2, .int v2), (3, .int v3), (4, .int v4), (5, .int v5)] dX6_shareOut_80 (by decide) rfl ?_
        refine jv_sub [3, 4, 5, 6, 7, 8, 2, 1, 0] (ls' := [(0, .ref v0), (1, .ref v1), (2, .int v2), (3, .int v3), (4, .int v4), (5, .int v5), (6, .int x11), (7, .int r24), (8, .int v5)]) rfl ?_
        exact jv_pc 82 rfl (s_Rents_shareOut_2 hC hk6 hN _ _ _ _ _ _ _ _ _ _ _ hF)
theorem s_Rents_shareOut_1 {X : hm_X} {n : Nat} {S : hm_S} (hC : hm_C X RX6 cX6_shareOut 9 none 4 n S) : ∀ (q : Nat) (v0 : Nat) (v1 : Nat) (v2 : Int32) (v3 : Int32) (v4 : Int32) (v5 : Int32) (M : hm_M) (M' : hm_M), f_Rents_shareOut_1 S  q v0 v1 v2 v3 v4 v5 M = some M' → hm_U X 6 [(0, .ref v0), (1, .ref v1), (2, .int v2), (3, .int v3), (4, .int v4), (5, .int v5)] [] M (hm_Q X none M') := by
  intro q
  induction q with
  | zero => intro v0 v1 v2 v3 v4 v5 M M' hF; cases hF
  | succ q ih => intro v0 v1 v2 v3 v4 v5 M M' hF; exact t_Rents_shareOut_1 hC ih hF
set_option maxRecDepth 100000 in
set_option maxHeartbeats 4000000 in
theorem k_Rents_shareOut {n : Nat} {S : hm_S} {v0 : Nat} {v1 : Nat} {v2 : Int32} {v3 : Int32} {M : hm_M} {M' : hm_M} (hF : f_Rents_shareOut S v0 v1 v2 v3 M = some M') : hm_KM yX6_shareOut cX6_shareOut 9 none 4 n S [.ref v0, .ref v1, .int v2, .int v3] M none M' := by
  refine hm_enter mm_Rents_shareOut (Nat.le_of_ble_eq_true rfl) (fun X hC => ?_)
  show hm_U X 0 [(0, .ref v0), (1, .ref v1), (2, .int v2), (3, .int v3)] [] M _
  unfold f_Rents_shareOut at hF
  refine jv_iload_n hC 2 dX6_shareOut_0 rfl ?_
  refine jv_istore hC [(4, .int v2), (0, .ref v0), (1, .ref v1), (2, .int v2), (3, .int v3)] dX6_shareOut_1 (by decide) rfl ?_
  refine jv_iconst hC dX6_shareOut_3 c32_0 ?_
  refine jv_istore hC [(5, .int (0 : Int32)), (4, .int v2), (0, .ref v0), (1, .ref v1), (2, .int v2), (3, .int v3)] dX6_shareOut_4 (by decide) rfl ?_
  refine jv_sub [2, 3, 4, 5, 1, 0] (ls' := [(0, .ref v0), (1, .ref v1), (2, .int v2), (3, .int v3), (4, .int v2), (5, .int (0 : Int32))]) rfl ?_
  exact jv_pc 6 rfl (s_Rents_shareOut_1 hC hN _ _ _ _ _ _ _ _ hF)
set_option maxRecDepth 100000 in
set_option maxHeartbeats 4000000 in
theorem t_Rents_measure_2 {X : hm_X} {n : Nat} {S : hm_S} (hC : hm_C X RX6 cX6_measure 9 none 5 n S) {k37 : Nat → Nat → Int32 → Int32 → Int32 → Int64 → Int32 → hm_M → Option hm_M} (hk37 : ∀ (v0 : Nat) (v1 : Nat) (v2 : Int32) (v4 : Int32) (v5 : Int32) (v6 : Int64) (v8 : Int32)  (M : hm_M) (M' : hm_M), k37 v0 v1 v2 v4 v5 v6 v8 M = some M' → hm_U X 37 [(0, .ref v0), (1, .ref v1), (2, .int v2), (4, .int v4), (5, .int v5), (6, .long v6), (8, .int v8)] [] M (hm_Q X none M')) {v0 : Nat} {v1 : Nat} {v2 : Int32} {v4 : Int32} {v5 : Int32} {v6 : Int64} {v8 : Int32} {M : hm_M} {M' : hm_M} (hF : b_Rents_measure_2 S k37 v0 v1 v2 v4 v5 v6 v8 M = some M') : hm_U X 37 [(0, .ref v0), (1, .ref v1), (2, .int v2), (4, .int v4), (5, .int v5), (6, .long v6), (8, .int v8)] [] M (hm_Q X none M') := by
  unfold b_Rents_measure_2 at hF
  refine jv_iload hC 6 dX6_measure_37 rfl ?_
  refine jv_sipush hC dX6_measure_39 c16_1248 ?_
  refine jv_icmp_ge hC 98 dX6_measure_42 (by decide) (fun h1 => ?_) (fun h1 => ?_)
  · have hF := hi_pos h1 hF
    obtain rfl := hr_somev hF
    exact jv_vret hC dX6_measure_98
  · have hF := hi_neg h1 hF
    refine jv_lload hC 5 dX6_measure_45 rfl ?_
    refine jv_ldc2 hC cl_X6_73 dX6_measure_47 ?_
    refine jv_lmul hC dX6_measure_50 ?_
    refine jv_ldc2 hC cl_X6_75 dX6_measure_51 ?_
    refine jv_ladd hC dX6_measure_54 ?_
    refine jv_ldc2 hC cl_X6_77 dX6_measure_55 ?_
    refine jv_lrem hC dX6_measure_58 (by decide) ?_
    refine jv_pc 59 rfl ?_
    obtain ⟨x2, e3, hF⟩ := hl_some hF
    refine jv_topL e3 ?_
    refine jv_lstore hC [(6, .long x2), (0, .ref v0), (1, .ref v1), (2, .int v2), (4, .int v4), (5, .int v5), (8, .int v8)] dX6_measure_59 (by decide) rfl ?_
    refine jv_lload hC 0 dX6_measure_61 rfl ?_
    refine jv_ldc2 hC cl_X6_79 dX6_measure_63 ?_
    refine jv_ldiv hC dX6_measure_66 (by decide) ?_
    refine jv_ldc2 hC cl_X6_81 dX6_measure_67 ?_
    refine jv_lrem hC dX6_measure_70 (by decide) ?_
    refine jv_iload hC 4 dX6_measure_71 rfl ?_
    refine jv_i2l hC dX6_measure_73 ?_
    refine jv_pc 74 rfl ?_
    refine jv_lcmp hC dX6_measure_74 ?_
    refine jv_if_lt hC 92 dX6_measure_75 (by decide) (fun h4 => ?_) (fun h4 => ?_)
    · have hF := hi_pos h4 hF
      refine jv_iinc hC 6 [(8, .int (v8 + (1 : Int32))), (6, .long x2), (0, .ref v0), (1, .ref v1), (2, .int v2), (4, .int v4), (5, .int v5)] dX6_measure_92 rfl c32_1 (by decide) rfl ?_
      refine jv_goto hC 37 dX6_measure_95 (by decide) ?_
      refine jv_sub [2, 3, 4, 5, 6, 1, 0] (ls' := [(0, .ref v0), (1, .ref v1), (2, .int v2), (4, .int v4), (5, .int v5), (6, .long x2), (8, .int (v8 + (1 : Int32)))]) rfl ?_
      exact jv_pc 37 rfl (hk37 _ _ _ _ _ _ _ _ _ hF)
    · have hF := hi_neg h4 hF
      refine jv_aload_n hC 2 dX6_measure_78 rfl ?_
      refine jv_iload hC 6 dX6_measure_79 rfl ?_
      obtain ⟨g5, hF⟩ := hg_some hF
      obtain ⟨M7, c6, hF⟩ := hv_some hF
      refine jv_callV hC (st := []) [.int v8] (k_Light_turnTo c6) mm_Light_turnTo mi_Light_turnTo ml_X6_83 dX6_measure_81 g5 rfl (Nat.le_of_ble_eq_true rfl) rfl rfl (Nat.le_of_ble_eq_true rfl) ?_
      refine jv_nf 84 [] rfl rfl ?_
      refine jv_aload_n hC 1 dX6_measure_84 rfl ?_
      refine jv_aload_n hC 2 dX6_measure_85 rfl ?_
      refine jv_iload_n hC 3 dX6_measure_86 rfl ?_
      refine jv_iload hC 5 dX6_measure_87 rfl ?_
      obtain ⟨g8, hF⟩ := hg_some hF
      obtain ⟨M10, c9, hF⟩ := hv_some hF
      refine jv_callV hC (st := []) [.ref v1, .int v2, .int v5] (k_Rents_shareOut c9) mm_Rents_shareOut mi_Rents_shareOut ml_X6_87 dX6_measure_89 g8 rfl (Nat.le_of_ble_eq_true rfl) rfl rfl (Nat.le_of_ble_eq_true rfl) ?_
      refine jv_nf 92 [] rfl rfl ?_
      refine jv_iinc hC 6 [(8, .int (v8 + (1 : Int32))), (6, .long x2), (0, .ref v0), (1, .ref v1), (2, .int v2), (4, .int v4), (5, .int v5)] dX6_measure_92 rfl c32_1 (by decide) rfl ?_
      refine jv_goto hC 37 dX6_measure_95 (by decide) ?_
      refine jv_sub [2, 3, 4, 5, 6, 1, 0] (ls' := [(0, .ref v0), (1, .ref v1), (2, .int v2), (4, .int v4), (5, .int v5), (6, .long x2), (8, .int (v8 + (1 : Int32)))]) rfl ?_
      exact jv_pc 37 rfl (hk37 _ _ _ _ _ _ _ _ _ hF)
theorem s_Rents_measure_2 {X : hm_X} {n : Nat} {S : hm_S} (hC : hm_C X RX6 cX6_measure 9 none 5 n S) : ∀ (q : Nat) (v0 : Nat) (v1 : Nat) (v2 : Int32) (v4 : Int32) (v5 : Int32) (v6 : Int64) (v8 : Int32) (M : hm_M) (M' : hm_M), f_Rents_measure_2 S  q v0 v1 v2 v4 v5 v6 v8 M = some M' → hm_U X 37 [(0, .ref v0), (1, .ref v1), (2, .int v2), (4, .int v4), (5, .int v5), (6, .long v6), (8, .int v8)] [] M (hm_Q X none M') := by
  intro q
  induction q with
  | zero => intro v0 v1 v2 v4 v5 v6 v8 M M' hF; cases hF
  | succ q ih => intro v0 v1 v2 v4 v5 v6 v8 M M' hF; exact t_Rents_measure_2 hC ih hF
set_option maxRecDepth 100000 in
set_option maxHeartbeats 4000000 in
theorem t_Rents_measure_1 {X : hm_X} {n : Nat} {S : hm_S} (hC : hm_C X RX6 cX6_measure 9 none 5 n S) {k3 : Nat → Nat → Int32 → Int32 → Int32 → Int32 → Int32 → hm_M → Option hm_M} (hk3 : ∀ (v0 : Nat) (v1 : Nat) (v2 : Int32) (v3 : Int32) (v4 : Int32) (v5 : Int32) (v6 : Int32)  (M : hm_M) (M' : hm_M), k3 v0 v1 v2 v3 v4 v5 v6 M = some M' → hm_U X 3 [(0, .ref v0), (1, .ref v1), (2, .int v2), (3, .int v3), (4, .int v4), (5, .int v5), (6, .int v6)] [] M (hm_Q X none M')) {v0 : Nat} {v1 : Nat} {v2 : Int32} {v3 : Int32} {v4 : Int32} {v5 : Int32} {v6 : Int32} {M : hm_M} {M' : hm_M} (hF : b_Rents_measure_1 S k3 v0 v1 v2 v3 v4 v5 v6 M = some M') : hm_U X 3 [(0, .ref v0), (1, .ref v1), (2, .int v2), (3, .int v3), (4, .int v4), (5, .int v5), (6, .int v6)] [] M (hm_Q X none M') := by
  unfold b_Rents_measure_1 at hF
  refine jv_iload hC 6 dX6_measure_3 rfl ?_
  refine jv_bipush hC dX6_measure_5 c8_12 ?_
  refine jv_icmp_ge hC 30 dX6_measure_7 (by decide) (fun h1 => ?_) (fun h1 => ?_)
  · have hF := hi_pos h1 hF
    refine jv_iload_n hC 3 dX6_measure_30 rfl ?_
    refine jv_i2l hC dX6_measure_31 ?_
    obtain ⟨x2, e3, hF⟩ := hl_some hF
    refine jv_topL e3 ?_
    refine jv_lstore hC [(6, .long x2), (0, .ref v0), (1, .ref v1), (2, .int v2), (3, .int v3), (4, .int v4), (5, .int v5)] dX6_measure_32 (by decide) rfl ?_
    refine jv_sub [0, 1, 2, 3, 5, 6] (ls' := [(6, .long x2), (0, .ref v0), (1, .ref v1), (2, .int v2), (4, .int v4), (5, .int v5)]) rfl ?_
    refine jv_iconst hC dX6_measure_34 c32_0 ?_
    refine jv_istore hC [(8, .int (0 : Int32)), (6, .long x2), (0, .ref v0), (1, .ref v1), (2, .int v2), (4, .int v4), (5, .int v5)] dX6_measure_35 (by decide) rfl ?_
    refine jv_sub [2, 3, 4, 5, 6, 1, 0] (ls' := [(0, .ref v0), (1, .ref v1), (2, .int v2), (4, .int v4), (5, .int v5), (6, .long x2), (8, .int (0 : Int32))]) rfl ?_
    exact jv_pc 37 rfl (s_Rents_measure_2 hC hN _ _ _ _ _ _ _ _ _ hF)
  · have hF := hi_neg h1 hF
    refine jv_aload_n hC 0 dX6_measure_10 rfl ?_
    obtain ⟨g4, hF⟩ := hg_some hF
    obtain ⟨g5, hF⟩ := hg_some hF
    refine jv_getR hC fl_X6_11 dX6_measure_11 rfl g4 g5 ?_
    refine jv_iload hC 5 dX6_measure_14 rfl ?_
    refine jv_bipush hC dX6_measure_16 c8_12 ?_
    refine jv_imul hC dX6_measure_18 ?_
    refine jv_iload hC 6 dX6_measure_19 rfl ?_
    refine jv_iadd hC dX6_measure_21 ?_
    refine jv_pc 22 rfl ?_
    refine jv_iconst hC dX6_measure_22 c32_0 ?_
    obtain ⟨g6, hF⟩ := hg_some hF
    obtain ⟨n7, sn7, in7⟩ := hm_ib_ok g6
    refine jv_iastore hC dX6_measure_23 sn7 in7 ?_
    obtain ⟨M8, e9, hF⟩ := hl_some hF
    refine jv_mem e9 ?_
    refine jv_iinc hC 6 [(6, .int (v6 + (1 : Int32))), (0, .ref v0), (1, .ref v1), (2, .int v2), (3, .int v3), (4, .int v4), (5, .int v5)] dX6_measure_24 rfl c32_1 (by decide) rfl ?_
    refine jv_goto hC 3 dX6_measure_27 (by decide) ?_
    refine jv_sub [1, 2, 3, 4, 5, 6, 0] (ls' := [(0, .ref v0), (1, .ref v1), (2, .int v2), (3, .int v3), (4, .int v4), (5, .int v5), (6, .int (v6 + (1 : Int32)))]) rfl ?_
    exact jv_pc 3 rfl (hk3 _ _ _ _ _ _ _ _ _ hF)
theorem s_Rents_measure_1 {X : hm_X} {n : Nat} {S : hm_S} (hC : hm_C X RX6 cX6_measure 9 none 5 n S) : ∀ (q : Nat) (v0 : Nat) (v1 : Nat) (v2 : Int32) (v3 : Int32) (v4 : Int32) (v5 : Int32) (v6 : Int32) (M : hm_M) (M' : hm_M), f_Rents_measure_1 S  q v0 v1 v2 v3 v4 v5 v6 M = some M' → hm_U X 3 [(0, .ref v0), (1, .ref v1), (2, .int v2), (3, .int v3), (4, .int v4), (5, .int v5), (6, .int v6)] [] M (hm_Q X none M') := by
  intro q
  induction q with
  | zero => intro v0 v1 v2 v3 v4 v5 v6 M M' hF; cases hF
  | succ q ih => intro v0 v1 v2 v3 v4 v5 v6 M M' hF; exact t_Rents_measure_1 hC ih hF
set_option maxRecDepth 100000 in
set_option maxHeartbeats 4000000 in
theorem k_Rents_measure {n : Nat} {S : hm_S} {v0 : Nat} {v1 : Nat} {v2 : Int32} {v3 : Int32} {v4 : Int32} {v5 : Int32} {M : hm_M} {M' : hm_M} (hF : f_Rents_measure S v0 v1 v2 v3 v4 v5 M = some M') : hm_KM yX6_measure cX6_measure 9 none 5 n S [.ref v0, .ref v1, .int v2, .int v3, .int v4, .int v5] M none M' := by
  refine hm_enter mm_Rents_measure (Nat.le_of_ble_eq_true rfl) (fun X hC => ?_)
  show hm_U X 0 [(0, .ref v0), (1, .ref v1), (2, .int v2), (3, .int v3), (4, .int v4), (5, .int v5)] [] M _
  unfold f_Rents_measure at hF
  refine jv_iconst hC dX6_measure_0 c32_0 ?_
  refine jv_istore hC [(6, .int (0 : Int32)), (0, .ref v0), (1, .ref v1), (2, .int v2), (3, .int v3), (4, .int v4), (5, .int v5)] dX6_measure_1 (by decide) rfl ?_
  refine jv_sub [1, 2, 3, 4, 5, 6, 0] (ls' := [(0, .ref v0), (1, .ref v1), (2, .int v2), (3, .int v3), (4, .int v4), (5, .int v5), (6, .int (0 : Int32))]) rfl ?_
  exact jv_pc 3 rfl (s_Rents_measure_1 hC hN _ _ _ _ _ _ _ _ _ hF)
set_option maxRecDepth 100000 in
set_option maxHeartbeats 4000000 in
theorem s_Rents_yearOf_2 {X : hm_X} {n : Nat} {S : hm_S} (hC : hm_C X RX6 cX6_yearOf 4 (some .int) 6 n S) {v0 : Nat} {v1 : Nat} {v2 : Int32} {M : hm_M} {r : Int32} {M' : hm_M} (hF : b_Rents_yearOf_2 S v0 v1 v2 M = some (r, M')) : hm_U X 34 [(0, .ref v0), (1, .ref v1), (2, .int v2)] [] M (hm_Q X (some (.int r)) M') := by
  unfold b_Rents_yearOf_2 at hF
  refine jv_aload_n hC 0 dX6_yearOf_34 rfl ?_
  obtain ⟨g1, hF⟩ := hg_some hF
  refine jv_getI hC fl_X6_22 dX6_yearOf_35 rfl g1 ?_
  obtain ⟨x2, e3, hF⟩ := hl_some hF
  refine jv_topI e3 ?_
  refine jv_istore_n hC [(3, .int x2), (0, .ref v0), (1, .ref v1), (2, .int v2)] dX6_yearOf_38 (by decide) rfl ?_
  refine jv_aload_n hC 1 dX6_yearOf_39 rfl ?_
  refine jv_aload_n hC 1 dX6_yearOf_40 rfl ?_
  refine jv_getI hC fl_X6_22 dX6_yearOf_41 rfl g1 ?_
  refine jv_iconst hC dX6_yearOf_44 c32_1 ?_
  refine jv_pc 45 rfl ?_
  refine jv_iadd hC dX6_yearOf_45 ?_
  refine jv_bipush hC dX6_yearOf_46 c8_16 ?_
  refine jv_irem hC dX6_yearOf_48 (by decide) ?_
  refine jv_putI hC fl_X6_22 dX6_yearOf_49 rfl rfl rfl g1 ?_
  obtain ⟨M4, e5, hF⟩ := hl_some hF
  refine jv_mem e5 ?_
  refine jv_aload_n hC 1 dX6_yearOf_52 rfl ?_
  refine jv_aload_n hC 1 dX6_yearOf_53 rfl ?_
  refine jv_getI hC fl_X6_18 dX6_yearOf_54 rfl g1 ?_
  refine jv_iconst hC dX6_yearOf_57 c32_1 ?_
  refine jv_pc 58 rfl ?_
  refine jv_iadd hC dX6_yearOf_58 ?_
  refine jv_bipush hC dX6_yearOf_59 c8_16 ?_
  refine jv_mmin hC ml_X6_55 dX6_yearOf_61 (by omega) (Nat.le_of_ble_eq_true rfl) ?_
  refine jv_putI hC fl_X6_18 dX6_yearOf_64 rfl rfl rfl g1 ?_
  obtain ⟨M6, e7, hF⟩ := hl_some hF
  refine jv_mem e7 ?_
  refine jv_aload_n hC 1 dX6_yearOf_67 rfl ?_
  obtain ⟨g8, hF⟩ := hg_some hF
  refine jv_getR hC fl_X6_15 dX6_yearOf_68 rfl g1 g8 ?_
  refine jv_iload_n hC 0 dX6_yearOf_71 rfl ?_
  refine jv_iload_n hC 3 dX6_yearOf_72 rfl ?_
  refine jv_pc 73 rfl ?_
  obtain ⟨g9, hF⟩ := hg_some hF
  obtain ⟨n10, sn10, in10⟩ := hm_ib_ok g9
  refine jv_iastore hC dX6_yearOf_73 sn10 in10 ?_
  obtain ⟨M11, e12, hF⟩ := hl_some hF
  refine jv_mem e12 ?_
  refine jv_aload_n hC 1 dX6_yearOf_74 rfl ?_
  refine jv_aload_n hC 2 dX6_yearOf_75 rfl ?_
  refine jv_iload_n hC 3 dX6_yearOf_76 rfl ?_
  refine jv_iconst hC dX6_yearOf_77 c32_0 ?_
  refine jv_iconst hC dX6_yearOf_78 c32_0 ?_
  refine jv_iload_n hC 0 dX6_yearOf_79 rfl ?_
  obtain ⟨M14, c13, hF⟩ := hv_some hF
  refine jv_callV hC (st := []) [.ref v1, .int v2, .int (0 : Int32), .int (0 : Int32), .int x2] (k_Rents_measure c13) mm_Rents_measure mi_Rents_measure ml_X6_60 dX6_yearOf_80 g1 rfl (Nat.le_of_ble_eq_true rfl) rfl rfl (Nat.le_of_ble_eq_true rfl) ?_
  refine jv_nf 83 [] rfl rfl ?_
  refine jv_iload_n hC 0 dX6_yearOf_83 rfl ?_
  obtain ⟨rfl, rfl⟩ := hr_some hF
  exact jv_iret hC dX6_yearOf_84
set_option maxRecDepth 100000 in
set_option maxHeartbeats 4000000 in
theorem t_Rents_yearOf_1 {X : hm_X} {n : Nat} {S : hm_S} (hC : hm_C X RX6 cX6_yearOf 4 (some .int) 6 n S) {k2 : Nat → Nat → Int32 → Int32 → hm_M → Option (Int32 × hm_M)} (hk2 : ∀ (v0 : Nat) (v1 : Nat) (v2 : Int32) (v3 : Int32)  (M : hm_M) (r : Int32) (M' : hm_M), k2 v0 v1 v2 v3 M = some (r, M') → hm_U X 2 [(0, .ref v0), (1, .ref v1), (2, .int v2), (3, .int v3)] [] M (hm_Q X (some (.int r)) M')) {v0 : Nat} {v1 : Nat} {v2 : Int32} {v3 : Int32} {M : hm_M} {r : Int32} {M' : hm_M} (hF : b_Rents_yearOf_1 S k2 v0 v1 v2 v3 M = some (r, M')) : hm_U X 2 [(0, .ref v0), (1, .ref v1), (2, .int v2), (3, .int v3)] [] M (hm_Q X (some (.int r)) M') := by
  unfold b_Rents_yearOf_1 at hF
  refine jv_iload_n hC 3 dX6_yearOf_2 rfl ?_
  refine jv_aload_n hC 0 dX6_yearOf_3 rfl ?_
  obtain ⟨g1, hF⟩ := hg_some hF
  refine jv_getI hC fl_X6_18 dX6_yearOf_4 rfl g1 ?_
  refine jv_icmp_ge hC 34 dX6_yearOf_7 (by decide) (fun h2 => ?_) (fun h2 => ?_)
  · have hF := hi_pos h2 hF
    refine jv_sub [0, 1, 2] (ls' := [(0, .ref v0), (1, .ref v1), (2, .int v2)]) rfl ?_
    exact jv_pc 34 rfl (s_Rents_yearOf_2 hC hF)
  · have hF := hi_neg h2 hF
    refine jv_iload_n hC 3 dX6_yearOf_10 rfl ?_
    refine jv_bipush hC dX6_yearOf_11 c8_16 ?_
    refine jv_icmp_ge hC 34 dX6_yearOf_13 (by decide) (fun h3 => ?_) (fun h3 => ?_)
    · have hF := hi_pos h3 hF
      refine jv_sub [0, 1, 2] (ls' := [(0, .ref v0), (1, .ref v1), (2, .int v2)]) rfl ?_
      exact jv_pc 34 rfl (s_Rents_yearOf_2 hC hF)
    · have hF := hi_neg h3 hF
      refine jv_aload_n hC 0 dX6_yearOf_16 rfl ?_
      obtain ⟨g4, hF⟩ := hg_some hF
      refine jv_getR hC fl_X6_15 dX6_yearOf_17 rfl g1 g4 ?_
      refine jv_iload_n hC 3 dX6_yearOf_20 rfl ?_
      obtain ⟨g5, hF⟩ := hg_some hF
      obtain ⟨n6, sn6, in6⟩ := hm_ib_ok g5
      refine jv_iaload hC dX6_yearOf_21 sn6 in6 ?_
      refine jv_iload_n hC 2 dX6_yearOf_22 rfl ?_
      refine jv_icmp_ne hC 28 dX6_yearOf_23 (by decide) (fun h7 => ?_) (fun h7 => ?_)
      · have hF := hi_neg h7 hF
        refine jv_iinc hC 3 [(3, .int (v3 + (1 : Int32))), (0, .ref v0), (1, .ref v1), (2, .int v2)] dX6_yearOf_28 rfl c32_1 (by decide) rfl ?_
        refine jv_goto hC 2 dX6_yearOf_31 (by decide) ?_
        refine jv_sub [1, 2, 3, 0] (ls' := [(0, .ref v0), (1, .ref v1), (2, .int v2), (3, .int (v3 + (1 : Int32)))]) rfl ?_
        exact jv_pc 2 rfl (hk2 _ _ _ _ _ _ _ hF)
      · have hF := hi_pos h7 hF
        refine jv_iload_n hC 3 dX6_yearOf_26 rfl ?_
        obtain ⟨rfl, rfl⟩ := hr_some hF
        exact jv_iret hC dX6_yearOf_27
theorem s_Rents_yearOf_1 {X : hm_X} {n : Nat} {S : hm_S} (hC : hm_C X RX6 cX6_yearOf 4 (some .int) 6 n S) : ∀ (q : Nat) (v0 : Nat) (v1 : Nat) (v2 : Int32) (v3 : Int32) (M : hm_M) (r : Int32) (M' : hm_M), f_Rents_yearOf_1 S  q v0 v1 v2 v3 M = some (r, M') → hm_U X 2 [(0, .ref v0), (1, .ref v1), (2, .int v2), (3, .int v3)] [] M (hm_Q X (some (.int r)) M') := by
  intro q
  induction q with
  | zero => intro v0 v1 v2 v3 M r M' hF; cases hF
  | succ q ih => intro v0 v1 v2 v3 M r M' hF; exact t_Rents_yearOf_1 hC ih hF
set_option maxRecDepth 100000 in
set_option maxHeartbeats 4000000 in
theorem k_Rents_yearOf {n : Nat} {S : hm_S} {v0 : Nat} {v1 : Nat} {v2 : Int32} {M : hm_M} {r : Int32} {M' : hm_M} (hF : f_Rents_yearOf S v0 v1 v2 M = some (r, M')) : hm_KM yX6_yearOf cX6_yearOf 4 (some .int) 6 n S [.ref v0, .ref v1, .int v2] M (some (.int r)) M' := by
  refine hm_enter mm_Rents_yearOf (Nat.le_of_ble_eq_true rfl) (fun X hC => ?_)
  show hm_U X 0 [(0, .ref v0), (1, .ref v1), (2, .int v2)] [] M _
  unfold f_Rents_yearOf at hF
  refine jv_iconst hC dX6_yearOf_0 c32_0 ?_
  refine jv_istore_n hC [(3, .int (0 : Int32)), (0, .ref v0), (1, .ref v1), (2, .int v2)] dX6_yearOf_1 (by decide) rfl ?_
  refine jv_sub [1, 2, 3, 0] (ls' := [(0, .ref v0), (1, .ref v1), (2, .int v2), (3, .int (0 : Int32))]) rfl ?_
  exact jv_pc 2 rfl (s_Rents_yearOf_1 hC hN _ _ _ _ _ _ _ hF)
set_option maxRecDepth 100000 in
set_option maxHeartbeats 4000000 in
theorem k_Ps_yearNow {n : Nat} {S : hm_S} {v0 : Nat} {M : hm_M} {r : Int32} {M' : hm_M} (hF : f_Ps_yearNow S v0 M = some (r, M')) : hm_KM yX11_yearNow cX11_yearNow 1 (some .int) 7 n S [.ref v0] M (some (.int r)) M' := by
  refine hm_enter mm_Ps_yearNow (Nat.le_of_ble_eq_true rfl) (fun X hC => ?_)
  show hm_U X 0 [(0, .ref v0)] [] M _
  unfold f_Ps_yearNow at hF
  refine jv_aload_n hC 0 dX11_yearNow_0 rfl ?_
  obtain ⟨g1, hF⟩ := hg_some hF
  obtain ⟨g2, hF⟩ := hg_some hF
  refine jv_getR hC fl_X11_40 dX11_yearNow_1 rfl g1 g2 ?_
  refine jv_aload_n hC 0 dX11_yearNow_4 rfl ?_
  obtain ⟨g3, hF⟩ := hg_some hF
  refine jv_getR hC fl_X11_19 dX11_yearNow_5 rfl g1 g3 ?_
  refine jv_aload_n hC 0 dX11_yearNow_8 rfl ?_
  obtain ⟨g4, hF⟩ := hg_some hF
  refine jv_getR hC fl_X11_26 dX11_yearNow_9 rfl g1 g4 ?_
  obtain ⟨g5, hF⟩ := hg_some hF
  obtain ⟨r8, M7, c6, hF⟩ := hb_some hF
  refine jv_callV hC (st := [.ref (M.2.2 v0 1), .ref (M.2.2 v0 4)]) [] (k_Hold_lit c6) mm_Hold_lit mi_Hold_lit ml_X11_165 dX11_yearNow_12 g5 rfl (Nat.le_of_ble_eq_true rfl) rfl rfl (Nat.le_of_ble_eq_true rfl) ?_
  refine jv_nf 15 [.int r8, .ref (M.2.2 v0 1), .ref (M.2.2 v0 4)] rfl rfl ?_
  obtain ⟨g9, hF⟩ := hg_some hF
  obtain ⟨r12, M11, c10, hF⟩ := hb_some hF
  refine jv_callV hC (st := []) [.ref (M.2.2 v0 1), .int r8] (k_Rents_yearOf c10) mm_Rents_yearOf mi_Rents_yearOf ml_X11_309 dX11_yearNow_15 g9 rfl (Nat.le_of_ble_eq_true rfl) rfl rfl (Nat.le_of_ble_eq_true rfl) ?_
  refine jv_nf 18 [.int r12] rfl rfl ?_
  obtain ⟨rfl, rfl⟩ := hr_some hF
  exact jv_iret hC dX11_yearNow_18
set_option maxRecDepth 100000 in
set_option maxHeartbeats 4000000 in
theorem k_Rents_given {n : Nat} {S : hm_S} {v0 : Nat} {v1 : Int32} {v2 : Int32} {M : hm_M} {r : Int32} {M' : hm_M} (hF : f_Rents_given S v0 v1 v2 M = some (r, M')) : hm_KM yX6_given cX6_given 3 (some .int) 1 n S [.ref v0, .int v1, .int v2] M (some (.int r)) M' := by
  refine hm_enter mm_Rents_given (Nat.le_of_ble_eq_true rfl) (fun X hC => ?_)
  show hm_U X 0 [(0, .ref v0), (1, .int v1), (2, .int v2)] [] M _
  unfold f_Rents_given at hF
  refine jv_aload_n hC 0 dX6_given_0 rfl ?_
  obtain ⟨g1, hF⟩ := hg_some hF
  obtain ⟨g2, hF⟩ := hg_some hF
  refine jv_getR hC fl_X6_11 dX6_given_1 rfl g1 g2 ?_
  refine jv_iload_n hC 1 dX6_given_4 rfl ?_
  refine jv_bipush hC dX6_given_5 c8_12 ?_
  refine jv_imul hC dX6_given_7 ?_
  refine jv_iload_n hC 2 dX6_given_8 rfl ?_
  refine jv_iadd hC dX6_given_9 ?_
  refine jv_pc 10 rfl ?_
  obtain ⟨g3, hF⟩ := hg_some hF
  obtain ⟨n4, sn4, in4⟩ := hm_ib_ok g3
  refine jv_iaload hC dX6_given_10 sn4 in4 ?_
  obtain ⟨rfl, rfl⟩ := hr_some hF
  exact jv_iret hC dX6_given_11
set_option maxRecDepth 100000 in
set_option maxHeartbeats 4000000 in
theorem k_Rents_worthTo {n : Nat} {S : hm_S} {v0 : Nat} {v1 : Nat} {v2 : Int32} {v3 : Int32} {v4 : Int32} {M : hm_M} {r : Int32} {M' : hm_M} (hF : f_Rents_worthTo S v0 v1 v2 v3 v4 M = some (r, M')) : hm_KM yX6_worthTo cX6_worthTo 5 (some .int) 2 n S [.ref v0, .ref v1, .int v2, .int v3, .int v4] M (some (.int r)) M' := by
  refine hm_enter mm_Rents_worthTo (Nat.le_of_ble_eq_true rfl) (fun X hC => ?_)
  show hm_U X 0 [(0, .ref v0), (1, .ref v1), (2, .int v2), (3, .int v3), (4, .int v4)] [] M _
  unfold f_Rents_worthTo at hF
  refine jv_aload_n hC 0 dX6_worthTo_0 rfl ?_
  refine jv_iload_n hC 2 dX6_worthTo_1 rfl ?_
  refine jv_iload hC 4 dX6_worthTo_2 rfl ?_
  obtain ⟨g1, hF⟩ := hg_some hF
  obtain ⟨r4, M3, c2, hF⟩ := hb_some hF
  refine jv_callV hC (st := []) [.int v2, .int v4] (k_Rents_given c2) mm_Rents_given mi_Rents_given ml_X6_28 dX6_worthTo_4 g1 rfl (Nat.le_of_ble_eq_true rfl) rfl rfl (Nat.le_of_ble_eq_true rfl) ?_
  refine jv_nf 7 [.int r4] rfl rfl ?_
  refine jv_iconst hC dX6_worthTo_7 c32_1 ?_
  refine jv_aload_n hC 1 dX6_worthTo_8 rfl ?_
  obtain ⟨g5, hF⟩ := hg_some hF
  obtain ⟨g6, hF⟩ := hg_some hF
  refine jv_getR hC fl_X6_32 dX6_worthTo_9 rfl g5 g6 ?_
  refine jv_iload hC 4 dX6_worthTo_12 rfl ?_
  obtain ⟨g7, hF⟩ := hg_some hF
  obtain ⟨n8, sn8, in8⟩ := hm_ib_ok g7
  refine jv_iaload hC dX6_worthTo_14 sn8 in8 ?_
  refine jv_aload_n hC 1 dX6_worthTo_15 rfl ?_
  obtain ⟨g9, hF⟩ := hg_some hF
  refine jv_getR hC fl_X6_37 dX6_worthTo_16 rfl g5 g9 ?_
  refine jv_pc 19 rfl ?_
  refine jv_iload_n hC 3 dX6_worthTo_19 rfl ?_
  obtain ⟨g10, hF⟩ := hg_some hF
  obtain ⟨n11, sn11, in11⟩ := hm_ib_ok g10
  refine jv_iaload hC dX6_worthTo_20 sn11 in11 ?_
  refine jv_iand hC dX6_worthTo_21 ?_
  obtain ⟨r14, M13, c12, hF⟩ := hb_some hF
  refine jv_callS hC (st := [.int (1 : Int32), .int r4]) [.int ((M3.1 (M3.2.2 v1 11) v4.toNatClampNeg) &&& (M3.1 (M3.2.2 v1 6) v3.toNatClampNeg))] (k_J6_bitCount_0f7a4 c12) mm_J6_bitCount_0f7a4 ms_J6_bitCount_0f7a4 ml_X6_40 dX6_worthTo_22 (Nat.le_of_ble_eq_true rfl) rfl rfl (Nat.le_of_ble_eq_true rfl) ?_
  refine jv_nf 25 [.int r14, .int (1 : Int32), .int r4] rfl rfl ?_
  refine jv_iadd hC dX6_worthTo_25 ?_
  refine jv_imul hC dX6_worthTo_26 ?_
  obtain ⟨rfl, rfl⟩ := hr_some hF
  exact jv_iret hC dX6_worthTo_27
set_option maxRecDepth 100000 in
set_option maxHeartbeats 4000000 in
theorem k_Rents_gainOf {n : Nat} {S : hm_S} {v0 : Nat} {v1 : Nat} {v2 : Nat} {v3 : Int32} {v4 : Int32} {v5 : Int32} {M : hm_M} {r : Int32} {M' : hm_M} (hF : f_Rents_gainOf S v0 v1 v2 v3 v4 v5 M = some (r, M')) : hm_KM yX6_gainOf cX6_gainOf 10 (some .int) 3 n S [.ref v0, .ref v1, .ref v2, .int v3, .int v4, .int v5] M (some (.int r)) M' := by
  refine hm_enter mm_Rents_gainOf (Nat.le_of_ble_eq_true rfl) (fun X hC => ?_)
  show hm_U X 0 [(0, .ref v0), (1, .ref v1), (2, .ref v2), (3, .int v3), (4, .int v4), (5, .int v5)] [] M _
  unfold f_Rents_gainOf at hF
  refine jv_aload_n hC 2 dX6_gainOf_0 rfl ?_
  obtain ⟨g1, hF⟩ := hg_some hF
  obtain ⟨g2, hF⟩ := hg_some hF
  refine jv_getR hC fl_X6_46 dX6_gainOf_1 rfl g1 g2 ?_
  refine jv_iload hC 4 dX6_gainOf_4 rfl ?_
  obtain ⟨g3, hF⟩ := hg_some hF
  obtain ⟨n4, sn4, in4⟩ := hm_ib_ok g3
  refine jv_iaload hC dX6_gainOf_6 sn4 in4 ?_
  obtain ⟨x5, e6, hF⟩ := hl_some hF
  refine jv_topI e6 ?_
  refine jv_istore hC [(6, .int x5), (0, .ref v0), (1, .ref v1), (2, .ref v2), (3, .int v3), (4, .int v4), (5, .int v5)] dX6_gainOf_7 (by decide) rfl ?_
  refine jv_aload_n hC 3 dX6_gainOf_9 rfl ?_
  refine jv_getR hC fl_X6_46 dX6_gainOf_10 rfl g1 g2 ?_
  refine jv_pc 13 rfl ?_
  refine jv_iload hC 6 dX6_gainOf_13 rfl ?_
  obtain ⟨g7, hF⟩ := hg_some hF
  obtain ⟨n8, sn8, in8⟩ := hm_ib_ok g7
  refine jv_iaload hC dX6_gainOf_15 sn8 in8 ?_
  obtain ⟨x9, e10, hF⟩ := hl_some hF
  refine jv_topI e10 ?_
  refine jv_istore hC [(7, .int x9), (6, .int x5), (0, .ref v0), (1, .ref v1), (2, .ref v2), (3, .int v3), (4, .int v4), (5, .int v5)] dX6_gainOf_16 (by decide) rfl ?_
  refine jv_sub [0, 1, 2, 3, 5, 6, 7] (ls' := [(7, .int x9), (6, .int x5), (0, .ref v0), (1, .ref v1), (3, .int v3), (4, .int v4), (5, .int v5)]) rfl ?_
  refine jv_aload_n hC 2 dX6_gainOf_18 rfl ?_
  refine jv_aload_n hC 3 dX6_gainOf_19 rfl ?_
  refine jv_iload_n hC 4 dX6_gainOf_20 rfl ?_
  refine jv_iload hC 1 dX6_gainOf_21 rfl ?_
  refine jv_iload hC 6 dX6_gainOf_23 rfl ?_
  refine jv_pc 25 rfl ?_
  obtain ⟨g11, hF⟩ := hg_some hF
  obtain ⟨r14, M13, c12, hF⟩ := hb_some hF
  refine jv_callV hC (st := []) [.ref v1, .int v3, .int x5, .int v5] (k_Rents_worthTo c12) mm_Rents_worthTo mi_Rents_worthTo ml_X6_51 dX6_gainOf_25 g11 rfl (Nat.le_of_ble_eq_true rfl) rfl rfl (Nat.le_of_ble_eq_true rfl) ?_
  refine jv_nf 28 [.int r14] rfl rfl ?_
  refine jv_aload_n hC 2 dX6_gainOf_28 rfl ?_
  refine jv_aload_n hC 3 dX6_gainOf_29 rfl ?_
  refine jv_iload_n hC 4 dX6_gainOf_30 rfl ?_
  refine jv_iload hC 1 dX6_gainOf_31 rfl ?_
  refine jv_iload hC 5 dX6_gainOf_33 rfl ?_
  obtain ⟨r17, M16, c15, hF⟩ := hb_some hF
  refine jv_callV hC (st := [.int r14]) [.ref v1, .int v3, .int x5, .int v4] (k_Rents_worthTo c15) mm_Rents_worthTo mi_Rents_worthTo ml_X6_51 dX6_gainOf_35 g11 rfl (Nat.le_of_ble_eq_true rfl) rfl rfl (Nat.le_of_ble_eq_true rfl) ?_
  refine jv_nf 38 [.int r17, .int r14] rfl rfl ?_
  refine jv_isub hC dX6_gainOf_38 ?_
  obtain ⟨x18, e19, hF⟩ := hl_some hF
  refine jv_topI e19 ?_
  refine jv_istore hC [(8, .int x18), (7, .int x9), (6, .int x5), (0, .ref v0), (1, .ref v1), (3, .int v3), (4, .int v4), (5, .int v5)] dX6_gainOf_39 (by decide) rfl ?_
  refine jv_sub [0, 1, 3, 4, 5, 6, 7] (ls' := [(8, .int x18), (7, .int x9), (0, .ref v0), (1, .ref v1), (3, .int v3), (4, .int v4), (5, .int v5)]) rfl ?_
  refine jv_aload_n hC 2 dX6_gainOf_41 rfl ?_
  refine jv_aload_n hC 3 dX6_gainOf_42 rfl ?_
  refine jv_iload_n hC 4 dX6_gainOf_43 rfl ?_
  refine jv_iload hC 1 dX6_gainOf_44 rfl ?_
  refine jv_iload hC 5 dX6_gainOf_46 rfl ?_
  refine jv_pc 48 rfl ?_
  obtain ⟨r22, M21, c20, hF⟩ := hb_some hF
  refine jv_callV hC (st := []) [.ref v1, .int v3, .int x9, .int v4] (k_Rents_worthTo c20) mm_Rents_worthTo mi_Rents_worthTo ml_X6_51 dX6_gainOf_48 g11 rfl (Nat.le_of_ble_eq_true rfl) rfl rfl (Nat.le_of_ble_eq_true rfl) ?_
  refine jv_nf 51 [.int r22] rfl rfl ?_
  refine jv_aload_n hC 2 dX6_gainOf_51 rfl ?_
  refine jv_aload_n hC 3 dX6_gainOf_52 rfl ?_
  refine jv_iload_n hC 4 dX6_gainOf_53 rfl ?_
  refine jv_iload hC 1 dX6_gainOf_54 rfl ?_
  refine jv_iload hC 6 dX6_gainOf_56 rfl ?_
  obtain ⟨r25, M24, c23, hF⟩ := hb_some hF
  refine jv_callV hC (st := [.int r22]) [.ref v1, .int v3, .int x9, .int v5] (k_Rents_worthTo c23) mm_Rents_worthTo mi_Rents_worthTo ml_X6_51 dX6_gainOf_58 g11 rfl (Nat.le_of_ble_eq_true rfl) rfl rfl (Nat.le_of_ble_eq_true rfl) ?_
  refine jv_nf 61 [.int r25, .int r22] rfl rfl ?_
  refine jv_isub hC dX6_gainOf_61 ?_
  obtain ⟨x26, e27, hF⟩ := hl_some hF
  refine jv_topI e27 ?_
  refine jv_istore hC [(9, .int x26), (8, .int x18), (7, .int x9), (0, .ref v0), (1, .ref v1), (3, .int v3), (4, .int v4), (5, .int v5)] dX6_gainOf_62 (by decide) rfl ?_
  refine jv_sub [0, 1] (ls' := [(9, .int x26), (8, .int x18)]) rfl ?_
  refine jv_iload hC 1 dX6_gainOf_64 rfl ?_
  refine jv_if_le hC 82 dX6_gainOf_66 (by decide) (fun h28 => ?_) (fun h28 => ?_)
  · have hF := hi_pos h28 hF
    refine jv_iconst hC dX6_gainOf_82 c32_0 ?_
    obtain ⟨rfl, rfl⟩ := hr_some hF
    exact jv_iret hC dX6_gainOf_83
  · have hF := hi_neg h28 hF
    refine jv_iload hC 0 dX6_gainOf_69 rfl ?_
    refine jv_if_le hC 82 dX6_gainOf_71 (by decide) (fun h29 => ?_) (fun h29 => ?_)
    · have hF := hi_pos h29 hF
      refine jv_iconst hC dX6_gainOf_82 c32_0 ?_
      obtain ⟨rfl, rfl⟩ := hr_some hF
      exact jv_iret hC dX6_gainOf_83
    · have hF := hi_neg h29 hF
      refine jv_iload hC 1 dX6_gainOf_74 rfl ?_
      refine jv_iload hC 0 dX6_gainOf_76 rfl ?_
      refine jv_iadd hC dX6_gainOf_78 ?_
      refine jv_goto hC 83 dX6_gainOf_79 (by decide) ?_
      obtain ⟨rfl, rfl⟩ := hr_some hF
      exact jv_iret hC dX6_gainOf_83
set_option maxRecDepth 100000 in
set_option maxHeartbeats 4000000 in
theorem t_Trade_mostWith_1 {X : hm_X} {n : Nat} {S : hm_S} (hC : hm_C X RX8 cX8_mostWith 6 (some .int) 1 n S) {k10 : Nat → Int32 → Int32 → Int32 → Int32 → hm_M → Option (Int32 × hm_M)} (hk10 : ∀ (v0 : Nat) (v1 : Int32) (v2 : Int32) (v3 : Int32) (v4 : Int32)  (M : hm_M) (r : Int32) (M' : hm_M), k10 v0 v1 v2 v3 v4 M = some (r, M') → hm_U X 10 [(0, .ref v0), (1, .int v1), (2, .int v2), (3, .int v3), (4, .int v4)] [] M (hm_Q X (some (.int r)) M')) {v0 : Nat} {v1 : Int32} {v2 : Int32} {v3 : Int32} {v4 : Int32} {M : hm_M} {r : Int32} {M' : hm_M} (hF : b_Trade_mostWith_1 S k10 v0 v1 v2 v3 v4 M = some (r, M')) : hm_U X 10 [(0, .ref v0), (1, .int v1), (2, .int v2), (3, .int v3), (4, .int v4)] [] M (hm_Q X (some (.int r)) M') := by
  unfold b_Trade_mostWith_1 at hF
  refine jv_iload hC 4 dX8_mostWith_10 rfl ?_
  refine jv_iload_n hC 1 dX8_mostWith_12 rfl ?_
  refine jv_icmp_ge hC 72 dX8_mostWith_13 (by decide) (fun h1 => ?_) (fun h1 => ?_)
  · have hF := hi_pos h1 hF
    refine jv_iload_n hC 3 dX8_mostWith_72 rfl ?_
    obtain ⟨rfl, rfl⟩ := hr_some hF
    exact jv_iret hC dX8_mostWith_73
  · have hF := hi_neg h1 hF
    refine jv_aload_n hC 0 dX8_mostWith_16 rfl ?_
    obtain ⟨g2, hF⟩ := hg_some hF
    obtain ⟨g3, hF⟩ := hg_some hF
    refine jv_getR hC fl_X8_9 dX8_mostWith_17 rfl g2 g3 ?_
    refine jv_iload_n hC 1 dX8_mostWith_20 rfl ?_
    refine jv_bipush hC dX8_mostWith_21 c8_12 ?_
    refine jv_imul hC dX8_mostWith_23 ?_
    refine jv_iload hC 4 dX8_mostWith_24 rfl ?_
    refine jv_iadd hC dX8_mostWith_26 ?_
    refine jv_pc 27 rfl ?_
    obtain ⟨g4, hF⟩ := hg_some hF
    obtain ⟨n5, sn5, in5⟩ := hm_ib_ok g4
    refine jv_iaload hC dX8_mostWith_27 sn5 in5 ?_
    obtain ⟨x6, e7, hF⟩ := hl_some hF
    refine jv_topI e7 ?_
    refine jv_istore hC [(5, .int x6), (0, .ref v0), (1, .int v1), (2, .int v2), (3, .int v3), (4, .int v4)] dX8_mostWith_28 (by decide) rfl ?_
    refine jv_iload_n hC 3 dX8_mostWith_30 rfl ?_
    refine jv_iload hC 5 dX8_mostWith_31 rfl ?_
    refine jv_ishr hC dX8_mostWith_33 ?_
    refine jv_iconst hC dX8_mostWith_34 c32_1 ?_
    refine jv_iand hC dX8_mostWith_35 ?_
    refine jv_iconst hC dX8_mostWith_36 c32_1 ?_
    refine jv_pc 37 rfl ?_
    refine jv_icmp_ne hC 66 dX8_mostWith_37 (by decide) (fun h8 => ?_) (fun h8 => ?_)
    · have hF := hi_neg h8 hF
      refine jv_iinc hC 5 [(4, .int (v4 + (1 : Int32))), (5, .int x6), (0, .ref v0), (1, .int v1), (2, .int v2), (3, .int v3)] dX8_mostWith_66 rfl c32_1 (by decide) rfl ?_
      refine jv_goto hC 10 dX8_mostWith_69 (by decide) ?_
      refine jv_sub [2, 3, 4, 5, 0] (ls' := [(0, .ref v0), (1, .int v1), (2, .int v2), (3, .int v3), (4, .int (v4 + (1 : Int32)))]) rfl ?_
      exact jv_pc 10 rfl (hk10 _ _ _ _ _ _ _ _ hF)
    · have hF := hi_pos h8 hF
      refine jv_iload hC 0 dX8_mostWith_40 rfl ?_
      refine jv_if_le hC 66 dX8_mostWith_42 (by decide) (fun h9 => ?_) (fun h9 => ?_)
      · have hF := hi_pos h9 hF
        refine jv_iinc hC 5 [(4, .int (v4 + (1 : Int32))), (5, .int x6), (0, .ref v0), (1, .int v1), (2, .int v2), (3, .int v3)] dX8_mostWith_66 rfl c32_1 (by decide) rfl ?_
        refine jv_goto hC 10 dX8_mostWith_69 (by decide) ?_
        refine jv_sub [2, 3, 4, 5, 0] (ls' := [(0, .ref v0), (1, .int v1), (2, .int v2), (3, .int v3), (4, .int (v4 + (1 : Int32)))]) rfl ?_
        exact jv_pc 10 rfl (hk10 _ _ _ _ _ _ _ _ hF)
      · have hF := hi_neg h9 hF
        refine jv_iload_n hC 4 dX8_mostWith_45 rfl ?_
        refine jv_iload hC 0 dX8_mostWith_46 rfl ?_
        refine jv_aload_n hC 1 dX8_mostWith_48 rfl ?_
        obtain ⟨g10, hF⟩ := hg_some hF
        refine jv_getR hC fl_X8_15 dX8_mostWith_49 rfl g2 g10 ?_
        refine jv_iload_n hC 3 dX8_mostWith_52 rfl ?_
        refine jv_iconst hC dX8_mostWith_53 c32_1 ?_
        refine jv_iload hC 5 dX8_mostWith_54 rfl ?_
        refine jv_pc 56 rfl ?_
        refine jv_ishl hC dX8_mostWith_56 ?_
        refine jv_iconst hC dX8_mostWith_57 c32_m1 ?_
        refine jv_ixor hC dX8_mostWith_58 ?_
        refine jv_iand hC dX8_mostWith_59 ?_
        obtain ⟨g11, hF⟩ := hg_some hF
        obtain ⟨n12, sn12, in12⟩ := hm_ib_ok g11
        refine jv_iaload hC dX8_mostWith_60 sn12 in12 ?_
        refine jv_iadd hC dX8_mostWith_61 ?_
        refine jv_mmax hC ml_X8_54 dX8_mostWith_62 (by omega) (Nat.le_of_ble_eq_true rfl) ?_
        obtain ⟨x13, e14, hF⟩ := hl_some hF
        refine jv_topI e14 ?_
        refine jv_istore_n hC [(3, .int x13), (5, .int x6), (0, .ref v0), (1, .int v1), (2, .int v2), (4, .int v4)] dX8_mostWith_65 (by decide) rfl ?_
        refine jv_pc 66 rfl ?_
        refine jv_iinc hC 5 [(4, .int (v4 + (1 : Int32))), (3, .int x13), (5, .int x6), (0, .ref v0), (1, .int v1), (2, .int v2)] dX8_mostWith_66 rfl c32_1 (by decide) rfl ?_
        refine jv_goto hC 10 dX8_mostWith_69 (by decide) ?_
        refine jv_sub [3, 4, 5, 1, 0] (ls' := [(0, .ref v0), (1, .int v1), (2, .int v2), (3, .int x13), (4, .int (v4 + (1 : Int32)))]) rfl ?_
        exact jv_pc 10 rfl (hk10 _ _ _ _ _ _ _ _ hF)
theorem s_Trade_mostWith_1 {X : hm_X} {n : Nat} {S : hm_S} (hC : hm_C X RX8 cX8_mostWith 6 (some .int) 1 n S) : ∀ (q : Nat) (v0 : Nat) (v1 : Int32) (v2 : Int32) (v3 : Int32) (v4 : Int32) (M : hm_M) (r : Int32) (M' : hm_M), f_Trade_mostWith_1 S  q v0 v1 v2 v3 v4 M = some (r, M') → hm_U X 10 [(0, .ref v0), (1, .int v1), (2, .int v2), (3, .int v3), (4, .int v4)] [] M (hm_Q X (some (.int r)) M') := by
  intro q
  induction q with
  | zero => intro v0 v1 v2 v3 v4 M r M' hF; cases hF
  | succ q ih => intro v0 v1 v2 v3 v4 M r M' hF; exact t_Trade_mostWith_1 hC ih hF
set_option maxRecDepth 100000 in
set_option maxHeartbeats 4000000 in
theorem k_Trade_mostWith {n : Nat} {S : hm_S} {v0 : Nat} {v1 : Int32} {v2 : Int32} {M : hm_M} {r : Int32} {M' : hm_M} (hF : f_Trade_mostWith S v0 v1 v2 M = some (r, M')) : hm_KM yX8_mostWith cX8_mostWith 6 (some .int) 1 n S [.ref v0, .int v1, .int v2] M (some (.int r)) M' := by
  refine hm_enter mm_Trade_mostWith (Nat.le_of_ble_eq_true rfl) (fun X hC => ?_)
  show hm_U X 0 [(0, .ref v0), (1, .int v1), (2, .int v2)] [] M _
  unfold f_Trade_mostWith at hF
  refine jv_aload_n hC 0 dX8_mostWith_0 rfl ?_
  obtain ⟨g1, hF⟩ := hg_some hF
  obtain ⟨g2, hF⟩ := hg_some hF
  refine jv_getR hC fl_X8_15 dX8_mostWith_1 rfl g1 g2 ?_
  refine jv_iload_n hC 2 dX8_mostWith_4 rfl ?_
  obtain ⟨g3, hF⟩ := hg_some hF
  obtain ⟨n4, sn4, in4⟩ := hm_ib_ok g3
  refine jv_iaload hC dX8_mostWith_5 sn4 in4 ?_
  obtain ⟨x5, e6, hF⟩ := hl_some hF
  refine jv_topI e6 ?_
  refine jv_istore_n hC [(3, .int x5), (0, .ref v0), (1, .int v1), (2, .int v2)] dX8_mostWith_6 (by decide) rfl ?_
  refine jv_iconst hC dX8_mostWith_7 c32_0 ?_
  refine jv_istore hC [(4, .int (0 : Int32)), (3, .int x5), (0, .ref v0), (1, .int v1), (2, .int v2)] dX8_mostWith_8 (by decide) rfl ?_
  refine jv_sub [2, 3, 4, 1, 0] (ls' := [(0, .ref v0), (1, .int v1), (2, .int v2), (3, .int x5), (4, .int (0 : Int32))]) rfl ?_
  exact jv_pc 10 rfl (s_Trade_mostWith_1 hC hN _ _ _ _ _ _ _ _ hF)
set_option maxRecDepth 100000 in
set_option maxHeartbeats 4000000 in
theorem t_Trade_leastPartner_1 {X : hm_X} {n : Nat} {S : hm_S} (hC : hm_C X RX8 cX8_leastPartner 7 (some .int) 1 n S) {k17 : Nat → Int32 → Int32 → Int32 → Int32 → Int32 → hm_M → Option (Int32 × hm_M)} (hk17 : ∀ (v0 : Nat) (v1 : Int32) (v2 : Int32) (v3 : Int32) (v4 : Int32) (v5 : Int32)  (M : hm_M) (r : Int32) (M' : hm_M), k17 v0 v1 v2 v3 v4 v5 M = some (r, M') → hm_U X 17 [(0, .ref v0), (1, .int v1), (2, .int v2), (3, .int v3), (4, .int v4), (5, .int v5)] [] M (hm_Q X (some (.int r)) M')) {v0 : Nat} {v1 : Int32} {v2 : Int32} {v3 : Int32} {v4 : Int32} {v5 : Int32} {M : hm_M} {r : Int32} {M' : hm_M} (hF : b_Trade_leastPartner_1 S k17 v0 v1 v2 v3 v4 v5 M = some (r, M')) : hm_U X 17 [(0, .ref v0), (1, .int v1), (2, .int v2), (3, .int v3), (4, .int v4), (5, .int v5)] [] M (hm_Q X (some (.int r)) M') := by
  unfold b_Trade_leastPartner_1 at hF
  refine jv_iload hC 5 dX8_leastPartner_17 rfl ?_
  refine jv_iload hC 4 dX8_leastPartner_19 rfl ?_
  refine jv_icmp_ge hC 82 dX8_leastPartner_21 (by decide) (fun h1 => ?_) (fun h1 => ?_)
  · have hF := hi_pos h1 hF
    refine jv_iload_n hC 1 dX8_leastPartner_82 rfl ?_
    obtain ⟨rfl, rfl⟩ := hr_some hF
    exact jv_iret hC dX8_leastPartner_83
  · have hF := hi_neg h1 hF
    refine jv_aload_n hC 0 dX8_leastPartner_24 rfl ?_
    obtain ⟨g2, hF⟩ := hg_some hF
    obtain ⟨g3, hF⟩ := hg_some hF
    refine jv_getR hC fl_X8_9 dX8_leastPartner_25 rfl g2 g3 ?_
    refine jv_iload_n hC 1 dX8_leastPartner_28 rfl ?_
    refine jv_bipush hC dX8_leastPartner_29 c8_12 ?_
    refine jv_imul hC dX8_leastPartner_31 ?_
    refine jv_iload hC 5 dX8_leastPartner_32 rfl ?_
    refine jv_iadd hC dX8_leastPartner_34 ?_
    refine jv_pc 35 rfl ?_
    obtain ⟨g4, hF⟩ := hg_some hF
    obtain ⟨n5, sn5, in5⟩ := hm_ib_ok g4
    refine jv_iaload hC dX8_leastPartner_35 sn5 in5 ?_
    obtain ⟨x6, e7, hF⟩ := hl_some hF
    refine jv_topI e7 ?_
    refine jv_istore hC [(6, .int x6), (0, .ref v0), (1, .int v1), (2, .int v2), (3, .int v3), (4, .int v4), (5, .int v5)] dX8_leastPartner_36 (by decide) rfl ?_
    refine jv_iload_n hC 3 dX8_leastPartner_38 rfl ?_
    refine jv_iload hC 6 dX8_leastPartner_39 rfl ?_
    refine jv_ishr hC dX8_leastPartner_41 ?_
    refine jv_iconst hC dX8_leastPartner_42 c32_1 ?_
    refine jv_iand hC dX8_leastPartner_43 ?_
    refine jv_iconst hC dX8_leastPartner_44 c32_1 ?_
    refine jv_pc 45 rfl ?_
    refine jv_icmp_ne hC 76 dX8_leastPartner_45 (by decide) (fun h8 => ?_) (fun h8 => ?_)
    · have hF := hi_neg h8 hF
      refine jv_iinc hC 6 [(5, .int (v5 + (1 : Int32))), (6, .int x6), (0, .ref v0), (1, .int v1), (2, .int v2), (3, .int v3), (4, .int v4)] dX8_leastPartner_76 rfl c32_1 (by decide) rfl ?_
      refine jv_goto hC 17 dX8_leastPartner_79 (by decide) ?_
      refine jv_sub [2, 3, 4, 5, 6, 0] (ls' := [(0, .ref v0), (1, .int v1), (2, .int v2), (3, .int v3), (4, .int v4), (5, .int (v5 + (1 : Int32)))]) rfl ?_
      exact jv_pc 17 rfl (hk17 _ _ _ _ _ _ _ _ _ hF)
    · have hF := hi_pos h8 hF
      refine jv_iload hC 0 dX8_leastPartner_48 rfl ?_
      refine jv_if_le hC 76 dX8_leastPartner_50 (by decide) (fun h9 => ?_) (fun h9 => ?_)
      · have hF := hi_pos h9 hF
        refine jv_iinc hC 6 [(5, .int (v5 + (1 : Int32))), (6, .int x6), (0, .ref v0), (1, .int v1), (2, .int v2), (3, .int v3), (4, .int v4)] dX8_leastPartner_76 rfl c32_1 (by decide) rfl ?_
        refine jv_goto hC 17 dX8_leastPartner_79 (by decide) ?_
        refine jv_sub [2, 3, 4, 5, 6, 0] (ls' := [(0, .ref v0), (1, .int v1), (2, .int v2), (3, .int v3), (4, .int v4), (5, .int (v5 + (1 : Int32)))]) rfl ?_
        exact jv_pc 17 rfl (hk17 _ _ _ _ _ _ _ _ _ hF)
      · have hF := hi_neg h9 hF
        refine jv_iload hC 0 dX8_leastPartner_53 rfl ?_
        refine jv_aload_n hC 1 dX8_leastPartner_55 rfl ?_
        obtain ⟨g10, hF⟩ := hg_some hF
        refine jv_getR hC fl_X8_15 dX8_leastPartner_56 rfl g2 g10 ?_
        refine jv_iload_n hC 3 dX8_leastPartner_59 rfl ?_
        refine jv_iconst hC dX8_leastPartner_60 c32_1 ?_
        refine jv_iload hC 6 dX8_leastPartner_61 rfl ?_
        refine jv_ishl hC dX8_leastPartner_63 ?_
        refine jv_pc 64 rfl ?_
        refine jv_iconst hC dX8_leastPartner_64 c32_m1 ?_
        refine jv_ixor hC dX8_leastPartner_65 ?_
        refine jv_iand hC dX8_leastPartner_66 ?_
        obtain ⟨g11, hF⟩ := hg_some hF
        obtain ⟨n12, sn12, in12⟩ := hm_ib_ok g11
        refine jv_iaload hC dX8_leastPartner_67 sn12 in12 ?_
        refine jv_iadd hC dX8_leastPartner_68 ?_
        refine jv_iload_n hC 4 dX8_leastPartner_69 rfl ?_
        refine jv_icmp_ne hC 76 dX8_leastPartner_70 (by decide) (fun h13 => ?_) (fun h13 => ?_)
        · have hF := hi_neg h13 hF
          refine jv_iinc hC 6 [(5, .int (v5 + (1 : Int32))), (6, .int x6), (0, .ref v0), (1, .int v1), (2, .int v2), (3, .int v3), (4, .int v4)] dX8_leastPartner_76 rfl c32_1 (by decide) rfl ?_
          refine jv_goto hC 17 dX8_leastPartner_79 (by decide) ?_
          refine jv_sub [2, 3, 4, 5, 6, 0] (ls' := [(0, .ref v0), (1, .int v1), (2, .int v2), (3, .int v3), (4, .int v4), (5, .int (v5 + (1 : Int32)))]) rfl ?_
          exact jv_pc 17 rfl (hk17 _ _ _ _ _ _ _ _ _ hF)
        · have hF := hi_pos h13 hF
          refine jv_iload hC 6 dX8_leastPartner_73 rfl ?_
          obtain ⟨rfl, rfl⟩ := hr_some hF
          exact jv_iret hC dX8_leastPartner_75
theorem s_Trade_leastPartner_1 {X : hm_X} {n : Nat} {S : hm_S} (hC : hm_C X RX8 cX8_leastPartner 7 (some .int) 1 n S) : ∀ (q : Nat) (v0 : Nat) (v1 : Int32) (v2 : Int32) (v3 : Int32) (v4 : Int32) (v5 : Int32) (M : hm_M) (r : Int32) (M' : hm_M), f_Trade_leastPartner_1 S  q v0 v1 v2 v3 v4 v5 M = some (r, M') → hm_U X 17 [(0, .ref v0), (1, .int v1), (2, .int v2), (3, .int v3), (4, .int v4), (5, .int v5)] [] M (hm_Q X (some (.int r)) M') := by
  intro q
  induction q with
  | zero => intro v0 v1 v2 v3 v4 v5 M r M' hF; cases hF
  | succ q ih => intro v0 v1 v2 v3 v4 v5 M r M' hF; exact t_Trade_leastPartner_1 hC ih hF
set_option maxRecDepth 100000 in
set_option maxHeartbeats 4000000 in
theorem k_Trade_leastPartner {n : Nat} {S : hm_S} {v0 : Nat} {v1 : Int32} {v2 : Int32} {v3 : Int32} {v4 : Int32} {M : hm_M} {r : Int32} {M' : hm_M} (hF : f_Trade_leastPartner S v0 v1 v2 v3 v4 M = some (r, M')) : hm_KM yX8_leastPartner cX8_leastPartner 7 (some .int) 1 n S [.ref v0, .int v1, .int v2, .int v3, .int v4] M (some (.int r)) M' := by
  refine hm_enter mm_Trade_leastPartner (Nat.le_of_ble_eq_true rfl) (fun X hC => ?_)
  show hm_U X 0 [(0, .ref v0), (1, .int v1), (2, .int v2), (3, .int v3), (4, .int v4)] [] M _
  unfold f_Trade_leastPartner at hF
  refine jv_aload_n hC 0 dX8_leastPartner_0 rfl ?_
  obtain ⟨g1, hF⟩ := hg_some hF
  obtain ⟨g2, hF⟩ := hg_some hF
  refine jv_getR hC fl_X8_15 dX8_leastPartner_1 rfl g1 g2 ?_
  refine jv_iload_n hC 2 dX8_leastPartner_4 rfl ?_
  obtain ⟨g3, hF⟩ := hg_some hF
  obtain ⟨n4, sn4, in4⟩ := hm_ib_ok g3
  refine jv_iaload hC dX8_leastPartner_5 sn4 in4 ?_
  refine jv_iload_n hC 3 dX8_leastPartner_6 rfl ?_
  refine jv_icmp_ne hC 12 dX8_leastPartner_7 (by decide) (fun h5 => ?_) (fun h5 => ?_)
  · have hF := hi_neg h5 hF
    refine jv_iload_n hC 1 dX8_leastPartner_12 rfl ?_
    refine jv_iconst hC dX8_leastPartner_13 c32_1 ?_
    refine jv_iadd hC dX8_leastPartner_14 ?_
    obtain ⟨x6, e7, hF⟩ := hl_some hF
    refine jv_topI e7 ?_
    refine jv_istore hC [(5, .int x6), (0, .ref v0), (1, .int v1), (2, .int v2), (3, .int v3), (4, .int v4)] dX8_leastPartner_15 (by decide) rfl ?_
    refine jv_sub [1, 2, 3, 4, 5, 0] (ls' := [(0, .ref v0), (1, .int v1), (2, .int v2), (3, .int v3), (4, .int v4), (5, .int x6)]) rfl ?_
    exact jv_pc 17 rfl (s_Trade_leastPartner_1 hC hN _ _ _ _ _ _ _ _ _ hF)
  · have hF := hi_pos h5 hF
    refine jv_iload_n hC 1 dX8_leastPartner_10 rfl ?_
    obtain ⟨rfl, rfl⟩ := hr_some hF
    exact jv_iret hC dX8_leastPartner_11
set_option maxRecDepth 100000 in
set_option maxHeartbeats 4000000 in
theorem t_Trade_choose_1 {X : hm_X} {n : Nat} {S : hm_S} (hC : hm_C X RX8 cX8_choose 6 none 2 n S) {k8 : Nat → Int32 → Int32 → Int32 → hm_M → Option hm_M} (hk8 : ∀ (v0 : Nat) (v1 : Int32) (v2 : Int32) (v3 : Int32)  (M : hm_M) (M' : hm_M), k8 v0 v1 v2 v3 M = some M' → hm_U X 8 [(0, .ref v0), (1, .int v1), (2, .int v2), (3, .int v3)] [] M (hm_Q X none M')) {v0 : Nat} {v1 : Int32} {v2 : Int32} {v3 : Int32} {M : hm_M} {M' : hm_M} (hF : b_Trade_choose_1 S k8 v0 v1 v2 v3 M = some M') : hm_U X 8 [(0, .ref v0), (1, .int v1), (2, .int v2), (3, .int v3)] [] M (hm_Q X none M') := by
  unfold b_Trade_choose_1 at hF
  refine jv_iload_n hC 3 dX8_choose_8 rfl ?_
  refine jv_iload_n hC 1 dX8_choose_9 rfl ?_
  refine jv_icmp_ge hC 79 dX8_choose_10 (by decide) (fun h1 => ?_) (fun h1 => ?_)
  · have hF := hi_pos h1 hF
    obtain rfl := hr_somev hF
    exact jv_vret hC dX8_choose_79
  · have hF := hi_neg h1 hF
    refine jv_iload_n hC 2 dX8_choose_13 rfl ?_
    refine jv_iload_n hC 3 dX8_choose_14 rfl ?_
    refine jv_ishr hC dX8_choose_15 ?_
    refine jv_iconst hC dX8_choose_16 c32_1 ?_
    refine jv_iand hC dX8_choose_17 ?_
    refine jv_iconst hC dX8_choose_18 c32_1 ?_
    refine jv_icmp_ne hC 73 dX8_choose_19 (by decide) (fun h2 => ?_) (fun h2 => ?_)
    · have hF := hi_neg h2 hF
      refine jv_iinc hC 3 [(3, .int (v3 + (1 : Int32))), (0, .ref v0), (1, .int v1), (2, .int v2)] dX8_choose_73 rfl c32_1 (by decide) rfl ?_
      refine jv_goto hC 8 dX8_choose_76 (by decide) ?_
      refine jv_sub [1, 2, 3, 0] (ls' := [(0, .ref v0), (1, .int v1), (2, .int v2), (3, .int (v3 + (1 : Int32)))]) rfl ?_
      exact jv_pc 8 rfl (hk8 _ _ _ _ _ _ hF)
    · have hF := hi_pos h2 hF
      refine jv_iload_n hC 2 dX8_choose_22 rfl ?_
      refine jv_iconst hC dX8_choose_23 c32_1 ?_
      refine jv_iload_n hC 3 dX8_choose_24 rfl ?_
      refine jv_ishl hC dX8_choose_25 ?_
      refine jv_iconst hC dX8_choose_26 c32_m1 ?_
      refine jv_ixor hC dX8_choose_27 ?_
      refine jv_iand hC dX8_choose_28 ?_
      refine jv_pc 29 rfl ?_
      obtain ⟨x3, e4, hF⟩ := hl_some hF
      refine jv_topI e4 ?_
      refine jv_istore hC [(4, .int x3), (0, .ref v0), (1, .int v1), (2, .int v2), (3, .int v3)] dX8_choose_29 (by decide) rfl ?_
      refine jv_aload_n hC 1 dX8_choose_31 rfl ?_
      refine jv_iload_n hC 4 dX8_choose_32 rfl ?_
      refine jv_iload hC 0 dX8_choose_33 rfl ?_
      refine jv_aload_n hC 1 dX8_choose_35 rfl ?_
      obtain ⟨g5, hF⟩ := hg_some hF
      obtain ⟨g6, hF⟩ := hg_some hF
      refine jv_getR hC fl_X8_15 dX8_choose_36 rfl g5 g6 ?_
      refine jv_iload_n hC 3 dX8_choose_39 rfl ?_
      obtain ⟨g7, hF⟩ := hg_some hF
      obtain ⟨n8, sn8, in8⟩ := hm_ib_ok g7
      refine jv_iaload hC dX8_choose_40 sn8 in8 ?_
      refine jv_pc 41 rfl ?_
      refine jv_iload_n hC 2 dX8_choose_41 rfl ?_
      obtain ⟨r11, M10, c9, hF⟩ := hb_some hF
      refine jv_callV hC (st := []) [.int v3, .int x3, .int (M.1 (M.2.2 v0 1) v2.toNatClampNeg), .int v1] (k_Trade_leastPartner c9) mm_Trade_leastPartner mi_Trade_leastPartner ml_X8_57 dX8_choose_42 g5 rfl (Nat.le_of_ble_eq_true rfl) rfl rfl (Nat.le_of_ble_eq_true rfl) ?_
      refine jv_nf 45 [.int r11] rfl rfl ?_
      refine jv_istore hC [(5, .int r11), (4, .int x3), (0, .ref v0), (1, .int v1), (2, .int v2), (3, .int v3)] dX8_choose_45 (by decide) rfl ?_
      refine jv_aload_n hC 2 dX8_choose_47 rfl ?_
      obtain ⟨g12, hF⟩ := hg_some hF
      refine jv_getR hC fl_X8_18 dX8_choose_48 rfl g5 g12 ?_
      refine jv_iload_n hC 5 dX8_choose_51 rfl ?_
      refine jv_iload hC 0 dX8_choose_52 rfl ?_
      obtain ⟨g13, hF⟩ := hg_some hF
      obtain ⟨n14, sn14, in14⟩ := hm_ib_ok g13
      refine jv_iastore hC dX8_choose_54 sn14 in14 ?_
      obtain ⟨M15, e16, hF⟩ := hl_some hF
      refine jv_mem e16 ?_
      refine jv_aload_n hC 2 dX8_choose_55 rfl ?_
      refine jv_pc 56 rfl ?_
      obtain ⟨g17, hF⟩ := hg_some hF
      refine jv_getR hC fl_X8_18 dX8_choose_56 rfl g5 g17 ?_
      refine jv_iload hC 0 dX8_choose_59 rfl ?_
      refine jv_iload_n hC 5 dX8_choose_61 rfl ?_
      obtain ⟨g18, hF⟩ := hg_some hF
      obtain ⟨n19, sn19, in19⟩ := hm_ib_ok g18
      refine jv_iastore hC dX8_choose_62 sn19 in19 ?_
      obtain ⟨M20, e21, hF⟩ := hl_some hF
      refine jv_mem e21 ?_
      refine jv_iload hC 1 dX8_choose_63 rfl ?_
      refine jv_iconst hC dX8_choose_65 c32_1 ?_
      refine jv_iload hC 0 dX8_choose_66 rfl ?_
      refine jv_ishl hC dX8_choose_68 ?_
      refine jv_pc 69 rfl ?_
      refine jv_iconst hC dX8_choose_69 c32_m1 ?_
      refine jv_ixor hC dX8_choose_70 ?_
      refine jv_iand hC dX8_choose_71 ?_
      obtain ⟨x22, e23, hF⟩ := hl_some hF
      refine jv_topI e23 ?_
      refine jv_istore_n hC [(2, .int x22), (5, .int r11), (4, .int x3), (0, .ref v0), (1, .int v1), (3, .int v3)] dX8_choose_72 (by decide) rfl ?_
      refine jv_iinc hC 5 [(3, .int (v3 + (1 : Int32))), (2, .int x22), (5, .int r11), (4, .int x3), (0, .ref v0), (1, .int v1)] dX8_choose_73 rfl c32_1 (by decide) rfl ?_
      refine jv_goto hC 8 dX8_choose_76 (by decide) ?_
      refine jv_sub [4, 5, 1, 0] (ls' := [(0, .ref v0), (1, .int v1), (2, .int x22), (3, .int (v3 + (1 : Int32)))]) rfl ?_
      exact jv_pc 8 rfl (hk8 _ _ _ _ _ _ hF)
theorem s_Trade_choose_1 {X : hm_X} {n : Nat} {S : hm_S} (hC : hm_C X RX8 cX8_choose 6 none 2 n S) : ∀ (q : Nat) (v0 : Nat) (v1 : Int32) (v2 : Int32) (v3 : Int32) (M : hm_M) (M' : hm_M), f_Trade_choose_1 S  q v0 v1 v2 v3 M = some M' → hm_U X 8 [(0, .ref v0), (1, .int v1), (2, .int v2), (3, .int v3)] [] M (hm_Q X none M') := by
  intro q
  induction q with
  | zero => intro v0 v1 v2 v3 M M' hF; cases hF
  | succ q ih => intro v0 v1 v2 v3 M M' hF; exact t_Trade_choose_1 hC ih hF
set_option maxRecDepth 100000 in
set_option maxHeartbeats 4000000 in
theorem k_Trade_choose {n : Nat} {S : hm_S} {v0 : Nat} {v1 : Int32} {M : hm_M} {M' : hm_M} (hF : f_Trade_choose S v0 v1 M = some M') : hm_KM yX8_choose cX8_choose 6 none 2 n S [.ref v0, .int v1] M none M' := by
  refine hm_enter mm_Trade_choose (Nat.le_of_ble_eq_true rfl) (fun X hC => ?_)
  show hm_U X 0 [(0, .ref v0), (1, .int v1)] [] M _
  unfold f_Trade_choose at hF
  refine jv_iconst hC dX8_choose_0 c32_1 ?_
  refine jv_iload_n hC 1 dX8_choose_1 rfl ?_
  refine jv_ishl hC dX8_choose_2 ?_
  refine jv_iconst hC dX8_choose_3 c32_1 ?_
  refine jv_isub hC dX8_choose_4 ?_
  obtain ⟨x1, e2, hF⟩ := hl_some hF
  refine jv_topI e2 ?_
  refine jv_istore_n hC [(2, .int x1), (0, .ref v0), (1, .int v1)] dX8_choose_5 (by decide) rfl ?_
  refine jv_iconst hC dX8_choose_6 c32_0 ?_
  refine jv_pc 7 rfl ?_
  refine jv_istore_n hC [(3, .int (0 : Int32)), (2, .int x1), (0, .ref v0), (1, .int v1)] dX8_choose_7 (by decide) rfl ?_
  refine jv_sub [2, 3, 1, 0] (ls' := [(0, .ref v0), (1, .int v1), (2, .int x1), (3, .int (0 : Int32))]) rfl ?_
  exact jv_pc 8 rfl (s_Trade_choose_1 hC hN _ _ _ _ _ _ hF)
set_option maxRecDepth 100000 in
set_option maxHeartbeats 4000000 in
theorem t_Trade_settle_6 {X : hm_X} {n : Nat} {S : hm_S} (hC : hm_C X RX8 cX8_settle 9 none 4 n S) {k111 : Nat → Int32 → Int32 → hm_M → Option hm_M} (hk111 : ∀ (v0 : Nat) (v5 : Int32) (v6 : Int32)  (M : hm_M) (M' : hm_M), k111 v0 v5 v6 M = some M' → hm_U X 111 [(0, .ref v0), (5, .int v5), (6, .int v6)] [] M (hm_Q X none M')) {k121 : Nat → Int32 → Int32 → Int32 → hm_M → Option hm_M} (hk121 : ∀ (v0 : Nat) (v5 : Int32) (v6 : Int32) (v7 : Int32)  (M : hm_M) (M' : hm_M), k121 v0 v5 v6 v7 M = some M' → hm_U X 121 [(0, .ref v0), (5, .int v5), (6, .int v6), (7, .int v7)] [] M (hm_Q X none M')) {v0 : Nat} {v5 : Int32} {v6 : Int32} {v7 : Int32} {M : hm_M} {M' : hm_M} (hF : b_Trade_settle_6 S k111 k121 v0 v5 v6 v7 M = some M') : hm_U X 121 [(0, .ref v0), (5, .int v5), (6, .int v6), (7, .int v7)] [] M (hm_Q X none M') := by
  unfold b_Trade_settle_6 at hF
  refine jv_iload hC 3 dX8_settle_121 rfl ?_
  refine jv_iconst hC dX8_settle_123 c32_1 ?_
  refine jv_iload hC 2 dX8_settle_124 rfl ?_
  refine jv_ishl hC dX8_settle_126 ?_
  refine jv_icmp_ge hC 156 dX8_settle_127 (by decide) (fun h1 => ?_) (fun h1 => ?_)
  · have hF := hi_pos h1 hF
    refine jv_iinc hC 2 [(6, .int (v6 + (1 : Int32))), (0, .ref v0), (5, .int v5), (7, .int v7)] dX8_settle_156 rfl c32_1 (by decide) rfl ?_
    refine jv_goto hC 111 dX8_settle_159 (by decide) ?_
    refine jv_sub [1, 2, 0] (ls' := [(0, .ref v0), (5, .int v5), (6, .int (v6 + (1 : Int32)))]) rfl ?_
    exact jv_pc 111 rfl (hk111 _ _ _ _ _ hF)
  · have hF := hi_neg h1 hF
    refine jv_aload_n hC 0 dX8_settle_130 rfl ?_
    obtain ⟨g2, hF⟩ := hg_some hF
    obtain ⟨g3, hF⟩ := hg_some hF
    refine jv_getR hC fl_X8_15 dX8_settle_131 rfl g2 g3 ?_
    refine jv_iload hC 3 dX8_settle_134 rfl ?_
    refine jv_iconst hC dX8_settle_136 c32_1 ?_
    refine jv_iload hC 2 dX8_settle_137 rfl ?_
    refine jv_ishl hC dX8_settle_139 ?_
    refine jv_ior hC dX8_settle_140 ?_
    refine jv_pc 141 rfl ?_
    refine jv_aload_n hC 0 dX8_settle_141 rfl ?_
    refine jv_iload hC 2 dX8_settle_142 rfl ?_
    refine jv_iload hC 3 dX8_settle_144 rfl ?_
    obtain ⟨r6, M5, c4, hF⟩ := hb_some hF
    refine jv_callV hC (st := [.int (v7 ||| ((1 : Int32) <<< (v6 &&& 31))), .ref (M.2.2 v0 1)]) [.int v6, .int v7] (k_Trade_mostWith c4) mm_Trade_mostWith mi_Trade_mostWith ml_X8_47 dX8_settle_146 g2 rfl (Nat.le_of_ble_eq_true rfl) rfl rfl (Nat.le_of_ble_eq_true rfl) ?_
    refine jv_nf 149 [.int r6, .int (v7 ||| ((1 : Int32) <<< (v6 &&& 31))), .ref (M.2.2 v0 1)] rfl rfl ?_
    obtain ⟨g7, hF⟩ := hg_some hF
    obtain ⟨n8, sn8, in8⟩ := hm_ib_ok g7
    refine jv_iastore hC dX8_settle_149 sn8 in8 ?_
    obtain ⟨M9, e10, hF⟩ := hl_some hF
    refine jv_mem e10 ?_
    refine jv_iinc hC 3 [(7, .int (v7 + (1 : Int32))), (0, .ref v0), (5, .int v5), (6, .int v6)] dX8_settle_150 rfl c32_1 (by decide) rfl ?_
    refine jv_goto hC 121 dX8_settle_153 (by decide) ?_
    refine jv_sub [1, 2, 3, 0] (ls' := [(0, .ref v0), (5, .int v5), (6, .int v6), (7, .int (v7 + (1 : Int32)))]) rfl ?_
    exact jv_pc 121 rfl (hk121 _ _ _ _ _ _ hF)
theorem s_Trade_settle_6 {X : hm_X} {n : Nat} {S : hm_S} (hC : hm_C X RX8 cX8_settle 9 none 4 n S) {k111 : Nat → Int32 → Int32 → hm_M → Option hm_M} (hk111 : ∀ (v0 : Nat) (v5 : Int32) (v6 : Int32)  (M : hm_M) (M' : hm_M), k111 v0 v5 v6 M = some M' → hm_U X 111 [(0, .ref v0), (5, .int v5), (6, .int v6)] [] M (hm_Q X none M')) : ∀ (q : Nat) (v0 : Nat) (v5 : Int32) (v6 : Int32) (v7 : Int32) (M : hm_M) (M' : hm_M), f_Trade_settle_6 S k111 q v0 v5 v6 v7 M = some M' → hm_U X 121 [(0, .ref v0), (5, .int v5), (6, .int v6), (7, .int v7)] [] M (hm_Q X none M') := by
  intro q
  induction q with
  | zero => intro v0 v5 v6 v7 M M' hF; cases hF
  | succ q ih => intro v0 v5 v6 v7 M M' hF; exact t_Trade_settle_6 hC hk111 ih hF
set_option maxRecDepth 100000 in
set_option maxHeartbeats 4000000 in
theorem t_Trade_settle_5 {X : hm_X} {n : Nat} {S : hm_S} (hC : hm_C X RX8 cX8_settle 9 none 4 n S) {k111 : Nat → Int32 → Int32 → hm_M → Option hm_M} (hk111 : ∀ (v0 : Nat) (v5 : Int32) (v6 : Int32)  (M : hm_M) (M' : hm_M), k111 v0 v5 v6 M = some M' → hm_U X 111 [(0, .ref v0), (5, .int v5), (6, .int v6)] [] M (hm_Q X none M')) {v0 : Nat} {v5 : Int32} {v6 : Int32} {M : hm_M} {M' : hm_M} (hF : b_Trade_settle_5 S k111 v0 v5 v6 M = some M') : hm_U X 111 [(0, .ref v0), (5, .int v5), (6, .int v6)] [] M (hm_Q X none M') := by
  unfold b_Trade_settle_5 at hF
  refine jv_iload hC 2 dX8_settle_111 rfl ?_
  refine jv_iload hC 1 dX8_settle_113 rfl ?_
  refine jv_icmp_ge hC 162 dX8_settle_115 (by decide) (fun h1 => ?_) (fun h1 => ?_)
  · have hF := hi_pos h1 hF
    refine jv_aload_n hC 0 dX8_settle_162 rfl ?_
    refine jv_aload_n hC 0 dX8_settle_163 rfl ?_
    obtain ⟨g2, hF⟩ := hg_some hF
    obtain ⟨g3, hF⟩ := hg_some hF
    refine jv_getR hC fl_X8_15 dX8_settle_164 rfl g2 g3 ?_
    refine jv_iconst hC dX8_settle_167 c32_1 ?_
    refine jv_iload hC 1 dX8_settle_168 rfl ?_
    refine jv_ishl hC dX8_settle_170 ?_
    refine jv_iconst hC dX8_settle_171 c32_1 ?_
    refine jv_pc 172 rfl ?_
    refine jv_isub hC dX8_settle_172 ?_
    obtain ⟨g4, hF⟩ := hg_some hF
    obtain ⟨n5, sn5, in5⟩ := hm_ib_ok g4
    refine jv_iaload hC dX8_settle_173 sn5 in5 ?_
    refine jv_putI hC fl_X8_21 dX8_settle_174 rfl rfl rfl g2 ?_
    obtain ⟨M6, e7, hF⟩ := hl_some hF
    refine jv_mem e7 ?_
    refine jv_aload_n hC 0 dX8_settle_177 rfl ?_
    refine jv_iload hC 1 dX8_settle_178 rfl ?_
    obtain ⟨M9, c8, hF⟩ := hv_some hF
    refine jv_callV hC (st := []) [.int v5] (k_Trade_choose c8) mm_Trade_choose mi_Trade_choose ml_X8_50 dX8_settle_180 g2 rfl (Nat.le_of_ble_eq_true rfl) rfl rfl (Nat.le_of_ble_eq_true rfl) ?_
    refine jv_nf 183 [] rfl rfl ?_
    obtain rfl := hr_somev hF
    exact jv_vret hC dX8_settle_183
  · have hF := hi_neg h1 hF
    refine jv_iconst hC dX8_settle_118 c32_0 ?_
    refine jv_istore hC [(7, .int (0 : Int32)), (0, .ref v0), (5, .int v5), (6, .int v6)] dX8_settle_119 (by decide) rfl ?_
    refine jv_sub [1, 2, 3, 0] (ls' := [(0, .ref v0), (5, .int v5), (6, .int v6), (7, .int (0 : Int32))]) rfl ?_
    exact jv_pc 121 rfl (s_Trade_settle_6 hC hk111 hN _ _ _ _ _ _ hF)
theorem s_Trade_settle_5 {X : hm_X} {n : Nat} {S : hm_S} (hC : hm_C X RX8 cX8_settle 9 none 4 n S) : ∀ (q : Nat) (v0 : Nat) (v5 : Int32) (v6 : Int32) (M : hm_M) (M' : hm_M), f_Trade_settle_5 S  q v0 v5 v6 M = some M' → hm_U X 111 [(0, .ref v0), (5, .int v5), (6, .int v6)] [] M (hm_Q X none M') := by
  intro q
  induction q with
  | zero => intro v0 v5 v6 M M' hF; cases hF
  | succ q ih => intro v0 v5 v6 M M' hF; exact t_Trade_settle_5 hC ih hF
set_option maxRecDepth 100000 in
set_option maxHeartbeats 4000000 in
theorem s_Trade_settle_4 {X : hm_X} {n : Nat} {S : hm_S} (hC : hm_C X RX8 cX8_settle 9 none 4 n S) {k14 : Nat → Nat → Nat → Nat → Int32 → Int32 → Int32 → hm_M → Option hm_M} (hk14 : ∀ (v0 : Nat) (v1 : Nat) (v2 : Nat) (v3 : Nat) (v4 : Int32) (v5 : Int32) (v6 : Int32)  (M : hm_M) (M' : hm_M), k14 v0 v1 v2 v3 v4 v5 v6 M = some M' → hm_U X 14 [(0, .ref v0), (1, .ref v1), (2, .ref v2), (3, .ref v3), (4, .int v4), (5, .int v5), (6, .int v6)] [] M (hm_Q X none M')) {k24 : Nat → Nat → Nat → Nat → Int32 → Int32 → Int32 → Int32 → hm_M → Option hm_M} (hk24 : ∀ (v0 : Nat) (v1 : Nat) (v2 : Nat) (v3 : Nat) (v4 : Int32) (v5 : Int32) (v6 : Int32) (v7 : Int32)  (M : hm_M) (M' : hm_M), k24 v0 v1 v2 v3 v4 v5 v6 v7 M = some M' → hm_U X 24 [(0, .ref v0), (1, .ref v1), (2, .ref v2), (3, .ref v3), (4, .int v4), (5, .int v5), (6, .int v6), (7, .int v7)] [] M (hm_Q X none M')) {v0 : Nat} {v1 : Nat} {v2 : Nat} {v3 : Nat} {v4 : Int32} {v5 : Int32} {v6 : Int32} {v7 : Int32} {s0 : Int32} {s1 : Int32} {s2 : Nat} {M : hm_M} {M' : hm_M} (hF : b_Trade_settle_4 S k14 k24 v0 v1 v2 v3 v4 v5 v6 v7 s0 s1 s2 M = some M') : hm_U X 88 [(0, .ref v0), (1, .ref v1), (2, .ref v2), (3, .ref v3), (4, .int v4), (5, .int v5), (6, .int v6), (7, .int v7)] [.int s0, .int s1, .ref s2] M (hm_Q X none M') := by
  unfold b_Trade_settle_4 at hF
  obtain ⟨g1, hF⟩ := hg_some hF
  obtain ⟨n2, sn2, in2⟩ := hm_ib_ok g1
  refine jv_iastore hC dX8_settle_88 sn2 in2 ?_
  obtain ⟨M3, e4, hF⟩ := hl_some hF
  refine jv_mem e4 ?_
  refine jv_iinc hC 7 [(7, .int (v7 + (1 : Int32))), (0, .ref v0), (1, .ref v1), (2, .ref v2), (3, .ref v3), (4, .int v4), (5, .int v5), (6, .int v6)] dX8_settle_89 rfl c32_1 (by decide) rfl ?_
  refine jv_goto hC 24 dX8_settle_92 (by decide) ?_
  refine jv_sub [1, 2, 3, 4, 5, 6, 7, 0] (ls' := [(0, .ref v0), (1, .ref v1), (2, .ref v2), (3, .ref v3), (4, .int v4), (5, .int v5), (6, .int v6), (7, .int (v7 + (1 : Int32)))]) rfl ?_
  exact jv_pc 24 rfl (hk24 _ _ _ _ _ _ _ _ _ _ hF)
set_option maxRecDepth 100000 in
set_option maxHeartbeats 4000000 in
theorem s_Trade_settle_3 {X : hm_X} {n : Nat} {S : hm_S} (hC : hm_C X RX8 cX8_settle 9 none 4 n S) {k14 : Nat → Nat → Nat → Nat → Int32 → Int32 → Int32 → hm_M → Option hm_M} (hk14 : ∀ (v0 : Nat) (v1 : Nat) (v2 : Nat) (v3 : Nat) (v4 : Int32) (v5 : Int32) (v6 : Int32)  (M : hm_M) (M' : hm_M), k14 v0 v1 v2 v3 v4 v5 v6 M = some M' → hm_U X 14 [(0, .ref v0), (1, .ref v1), (2, .ref v2), (3, .ref v3), (4, .int v4), (5, .int v5), (6, .int v6)] [] M (hm_Q X none M')) {k24 : Nat → Nat → Nat → Nat → Int32 → Int32 → Int32 → Int32 → hm_M → Option hm_M} (hk24 : ∀ (v0 : Nat) (v1 : Nat) (v2 : Nat) (v3 : Nat) (v4 : Int32) (v5 : Int32) (v6 : Int32) (v7 : Int32)  (M : hm_M) (M' : hm_M), k24 v0 v1 v2 v3 v4 v5 v6 v7 M = some M' → hm_U X 24 [(0, .ref v0), (1, .ref v1), (2, .ref v2), (3, .ref v3), (4, .int v4), (5, .int v5), (6, .int v6), (7, .int v7)] [] M (hm_Q X none M')) {v0 : Nat} {v1 : Nat} {v2 : Nat} {v3 : Nat} {v4 : Int32} {v5 : Int32} {v6 : Int32} {v7 : Int32} {s0 : Int32} {M : hm_M} {M' : hm_M} (hF : b_Trade_settle_3 S k14 k24 v0 v1 v2 v3 v4 v5 v6 v7 s0 M = some M') : hm_U X 53 [(0, .ref v0), (1, .ref v1), (2, .ref v2), (3, .ref v3), (4, .int v4), (5, .int v5), (6, .int v6), (7, .int v7)] [.int s0] M (hm_Q X none M') := by
  unfold b_Trade_settle_3 at hF
  refine jv_istore hC [(8, .int s0), (0, .ref v0), (1, .ref v1), (2, .ref v2), (3, .ref v3), (4, .int v4), (5, .int v5), (6, .int v6), (7, .int v7)] dX8_settle_53 (by decide) rfl ?_
  refine jv_aload_n hC 1 dX8_settle_55 rfl ?_
  obtain ⟨g1, hF⟩ := hg_some hF
  obtain ⟨g2, hF⟩ := hg_some hF
  refine jv_getR hC fl_X8_9 dX8_settle_56 rfl g1 g2 ?_
  refine jv_iload hC 7 dX8_settle_59 rfl ?_
  refine jv_bipush hC dX8_settle_61 c8_12 ?_
  refine jv_imul hC dX8_settle_63 ?_
  refine jv_iload hC 8 dX8_settle_64 rfl ?_
  refine jv_pc 66 rfl ?_
  refine jv_iadd hC dX8_settle_66 ?_
  refine jv_iload hC 0 dX8_settle_67 rfl ?_
  refine jv_if_eq hC 76 dX8_settle_69 (by decide) (fun h3 => ?_) (fun h3 => ?_)
  · have hF := hi_pos h3 hF
    refine jv_aload_n hC 4 dX8_settle_76 rfl ?_
    refine jv_aload_n hC 2 dX8_settle_77 rfl ?_
    refine jv_aload_n hC 3 dX8_settle_78 rfl ?_
    refine jv_iload hC 5 dX8_settle_79 rfl ?_
    refine jv_iload hC 7 dX8_settle_81 rfl ?_
    refine jv_iload hC 8 dX8_settle_83 rfl ?_
    obtain ⟨g4, hF⟩ := hg_some hF
    obtain ⟨r7, M6, c5, hF⟩ := hb_some hF
    refine jv_callV hC (st := [.int ((v6 * (12 : Int32)) + v7), .ref (M.2.2 v0 0)]) [.ref v1, .ref v2, .int v4, .int v6, .int v7] (k_Rents_gainOf c5) mm_Rents_gainOf mi_Rents_gainOf ml_X8_41 dX8_settle_85 g4 rfl (Nat.le_of_ble_eq_true rfl) rfl rfl (Nat.le_of_ble_eq_true rfl) ?_
    refine jv_nf 88 [.int r7, .int ((v6 * (12 : Int32)) + v7), .ref (M.2.2 v0 0)] rfl rfl ?_
    refine jv_sub [1, 2, 3, 4, 5, 6, 7, 8] (ls' := [(0, .ref v0), (1, .ref v1), (2, .ref v2), (3, .ref v3), (4, .int v4), (5, .int v5), (6, .int v6), (7, .int v7)]) rfl ?_
    exact jv_pc 88 rfl (s_Trade_settle_4 hC hk14 hk24 hF)
  · have hF := hi_neg h3 hF
    refine jv_iconst hC dX8_settle_72 c32_0 ?_
    refine jv_goto hC 88 dX8_settle_73 (by decide) ?_
    refine jv_sub [1, 2, 3, 4, 5, 6, 7, 8] (ls' := [(0, .ref v0), (1, .ref v1), (2, .ref v2), (3, .ref v3), (4, .int v4), (5, .int v5), (6, .int v6), (7, .int v7)]) rfl ?_
    exact jv_pc 88 rfl (s_Trade_settle_4 hC hk14 hk24 hF)
set_option maxRecDepth 100000 in
set_option maxHeartbeats 4000000 in
theorem t_Trade_settle_2 {X : hm_X} {n : Nat} {S : hm_S} (hC : hm_C X RX8 cX8_settle 9 none 4 n S) {k14 : Nat → Nat → Nat → Nat → Int32 → Int32 → Int32 → hm_M → Option hm_M} (hk14 : ∀ (v0 : Nat) (v1 : Nat) (v2 : Nat) (v3 : Nat) (v4 : Int32) (v5 : Int32) (v6 : Int32)  (M : hm_M) (M' : hm_M), k14 v0 v1 v2 v3 v4 v5 v6 M = some M' → hm_U X 14 [(0, .ref v0), (1, .ref v1), (2, .ref v2), (3, .ref v3), (4, .int v4), (5, .int v5), (6, .int v6)] [] M (hm_Q X none M')) {k24 : Nat → Nat → Nat → Nat → Int32 → Int32 → Int32 → Int32 → hm_M → Option hm_M} (hk24 : ∀ (v0 : Nat) (v1 : Nat) (v2 : Nat) (v3 : Nat) (v4 : Int32) (v5 : Int32) (v6 : Int32) (v7 : Int32)  (M : hm_M) (M' : hm_M), k24 v0 v1 v2 v3 v4 v5 v6 v7 M = some M' → hm_U X 24 [(0, .ref v0), (1, .ref v1), (2, .ref v2), (3, .ref v3), (4, .int v4), (5, .int v5), (6, .int v6), (7, .int v7)] [] M (hm_Q X none M')) {v0 : Nat} {v1 : Nat} {v2 : Nat} {v3 : Nat} {v4 : Int32} {v5 : Int32} {v6 : Int32} {v7 : Int32} {M : hm_M} {M' : hm_M} (hF : b_Trade_settle_2 S k14 k24 v0 v1 v2 v3 v4 v5 v6 v7 M = some M') : hm_U X 24 [(0, .ref v0), (1, .ref v1), (2, .ref v2), (3, .ref v3), (4, .int v4), (5, .int v5), (6, .int v6), (7, .int v7)] [] M (hm_Q X none M') := by
  unfold b_Trade_settle_2 at hF
  refine jv_iload hC 7 dX8_settle_24 rfl ?_
  refine jv_iload hC 5 dX8_settle_26 rfl ?_
  refine jv_icmp_ge hC 95 dX8_settle_28 (by decide) (fun h1 => ?_) (fun h1 => ?_)
  · have hF := hi_pos h1 hF
    refine jv_iinc hC 6 [(6, .int (v6 + (1 : Int32))), (0, .ref v0), (1, .ref v1), (2, .ref v2), (3, .ref v3), (4, .int v4), (5, .int v5), (7, .int v7)] dX8_settle_95 rfl c32_1 (by decide) rfl ?_
    refine jv_goto hC 14 dX8_settle_98 (by decide) ?_
    refine jv_sub [1, 2, 3, 4, 5, 6, 0] (ls' := [(0, .ref v0), (1, .ref v1), (2, .ref v2), (3, .ref v3), (4, .int v4), (5, .int v5), (6, .int (v6 + (1 : Int32)))]) rfl ?_
    exact jv_pc 14 rfl (hk14 _ _ _ _ _ _ _ _ _ hF)
  · have hF := hi_neg h1 hF
    refine jv_aload_n hC 2 dX8_settle_31 rfl ?_
    obtain ⟨g2, hF⟩ := hg_some hF
    obtain ⟨g3, hF⟩ := hg_some hF
    refine jv_getR hC fl_X8_36 dX8_settle_32 rfl g2 g3 ?_
    refine jv_iload hC 6 dX8_settle_35 rfl ?_
    obtain ⟨g4, hF⟩ := hg_some hF
    obtain ⟨n5, sn5, in5⟩ := hm_ib_ok g4
    refine jv_iaload hC dX8_settle_37 sn5 in5 ?_
    refine jv_aload_n hC 2 dX8_settle_38 rfl ?_
    refine jv_getR hC fl_X8_36 dX8_settle_39 rfl g2 g3 ?_
    refine jv_iload hC 7 dX8_settle_42 rfl ?_
    refine jv_pc 44 rfl ?_
    obtain ⟨g6, hF⟩ := hg_some hF
    obtain ⟨n7, sn7, in7⟩ := hm_ib_ok g6
    refine jv_iaload hC dX8_settle_44 sn7 in7 ?_
    refine jv_icmp_ne hC 52 dX8_settle_45 (by decide) (fun h8 => ?_) (fun h8 => ?_)
    · have hF := hi_neg h8 hF
      refine jv_iconst hC dX8_settle_52 c32_0 ?_
      exact jv_pc 53 rfl (s_Trade_settle_3 hC hk14 hk24 hF)
    · have hF := hi_pos h8 hF
      refine jv_iconst hC dX8_settle_48 c32_1 ?_
      refine jv_goto hC 53 dX8_settle_49 (by decide) ?_
      exact jv_pc 53 rfl (s_Trade_settle_3 hC hk14 hk24 hF)
theorem s_Trade_settle_2 {X : hm_X} {n : Nat} {S : hm_S} (hC : hm_C X RX8 cX8_settle 9 none 4 n S) {k14 : Nat → Nat → Nat → Nat → Int32 → Int32 → Int32 → hm_M → Option hm_M} (hk14 : ∀ (v0 : Nat) (v1 : Nat) (v2 : Nat) (v3 : Nat) (v4 : Int32) (v5 : Int32) (v6 : Int32)  (M : hm_M) (M' : hm_M), k14 v0 v1 v2 v3 v4 v5 v6 M = some M' → hm_U X 14 [(0, .ref v0), (1, .ref v1), (2, .ref v2), (3, .ref v3), (4, .int v4), (5, .int v5), (6, .int v6)] [] M (hm_Q X none M')) : ∀ (q : Nat) (v0 : Nat) (v1 : Nat) (v2 : Nat) (v3 : Nat) (v4 : Int32) (v5 : Int32) (v6 : Int32) (v7 : Int32) (M : hm_M) (M' : hm_M), f_Trade_settle_2 S k14 q v0 v1 v2 v3 v4 v5 v6 v7 M = some M' → hm_U X 24 [(0, .ref v0), (1, .ref v1), (2, .ref v2), (3, .ref v3), (4, .int v4), (5, .int v5), (6, .int v6), (7, .int v7)] [] M (hm_Q X none M') := by
  intro q
  induction q with
  | zero => intro v0 v1 v2 v3 v4 v5 v6 v7 M M' hF; cases hF
  | succ q ih => intro v0 v1 v2 v3 v4 v5 v6 v7 M M' hF; exact t_Trade_settle_2 hC hk14 ih hF
set_option maxRecDepth 100000 in
set_option maxHeartbeats 4000000 in
theorem t_Trade_settle_1 {X : hm_X} {n : Nat} {S : hm_S} (hC : hm_C X RX8 cX8_settle 9 none 4 n S) {k14 : Nat → Nat → Nat → Nat → Int32 → Int32 → Int32 → hm_M → Option hm_M} (hk14 : ∀ (v0 : Nat) (v1 : Nat) (v2 : Nat) (v3 : Nat) (v4 : Int32) (v5 : Int32) (v6 : Int32)  (M : hm_M) (M' : hm_M), k14 v0 v1 v2 v3 v4 v5 v6 M = some M' → hm_U X 14 [(0, .ref v0), (1, .ref v1), (2, .ref v2), (3, .ref v3), (4, .int v4), (5, .int v5), (6, .int v6)] [] M (hm_Q X none M')) {v0 : Nat} {v1 : Nat} {v2 : Nat} {v3 : Nat} {v4 : Int32} {v5 : Int32} {v6 : Int32} {M : hm_M} {M' : hm_M} (hF : b_Trade_settle_1 S k14 v0 v1 v2 v3 v4 v5 v6 M = some M') : hm_U X 14 [(0, .ref v0), (1, .ref v1), (2, .ref v2), (3, .ref v3), (4, .int v4), (5, .int v5), (6, .int v6)] [] M (hm_Q X none M') := by
  unfold b_Trade_settle_1 at hF
  refine jv_iload hC 6 dX8_settle_14 rfl ?_
  refine jv_iload hC 5 dX8_settle_16 rfl ?_
  refine jv_icmp_ge hC 101 dX8_settle_18 (by decide) (fun h1 => ?_) (fun h1 => ?_)
  · have hF := hi_pos h1 hF
    refine jv_aload_n hC 0 dX8_settle_101 rfl ?_
    obtain ⟨g2, hF⟩ := hg_some hF
    obtain ⟨g3, hF⟩ := hg_some hF
    refine jv_getR hC fl_X8_15 dX8_settle_102 rfl g2 g3 ?_
    refine jv_iconst hC dX8_settle_105 c32_0 ?_
    refine jv_iconst hC dX8_settle_106 c32_0 ?_
    obtain ⟨g4, hF⟩ := hg_some hF
    obtain ⟨n5, sn5, in5⟩ := hm_ib_ok g4
    refine jv_iastore hC dX8_settle_107 sn5 in5 ?_
    obtain ⟨M6, e7, hF⟩ := hl_some hF
    refine jv_mem e7 ?_
    refine jv_iconst hC dX8_settle_108 c32_0 ?_
    refine jv_istore hC [(6, .int (0 : Int32)), (0, .ref v0), (1, .ref v1), (2, .ref v2), (3, .ref v3), (4, .int v4), (5, .int v5)] dX8_settle_109 (by decide) rfl ?_
    refine jv_sub [0, 1, 6] (ls' := [(6, .int (0 : Int32)), (0, .ref v0), (5, .int v5)]) rfl ?_
    refine jv_sub [1, 2, 0] (ls' := [(0, .ref v0), (5, .int v5), (6, .int (0 : Int32))]) rfl ?_
    exact jv_pc 111 rfl (s_Trade_settle_5 hC hN _ _ _ _ _ hF)
  · have hF := hi_neg h1 hF
    refine jv_iconst hC dX8_settle_21 c32_0 ?_
    refine jv_istore hC [(7, .int (0 : Int32)), (0, .ref v0), (1, .ref v1), (2, .ref v2), (3, .ref v3), (4, .int v4), (5, .int v5), (6, .int v6)] dX8_settle_22 (by decide) rfl ?_
    refine jv_sub [1, 2, 3, 4, 5, 6, 7, 0] (ls' := [(0, .ref v0), (1, .ref v1), (2, .ref v2), (3, .ref v3), (4, .int v4), (5, .int v5), (6, .int v6), (7, .int (0 : Int32))]) rfl ?_
    exact jv_pc 24 rfl (s_Trade_settle_2 hC hk14 hN _ _ _ _ _ _ _ _ _ _ hF)
theorem s_Trade_settle_1 {X : hm_X} {n : Nat} {S : hm_S} (hC : hm_C X RX8 cX8_settle 9 none 4 n S) : ∀ (q : Nat) (v0 : Nat) (v1 : Nat) (v2 : Nat) (v3 : Nat) (v4 : Int32) (v5 : Int32) (v6 : Int32) (M : hm_M) (M' : hm_M), f_Trade_settle_1 S  q v0 v1 v2 v3 v4 v5 v6 M = some M' → hm_U X 14 [(0, .ref v0), (1, .ref v1), (2, .ref v2), (3, .ref v3), (4, .int v4), (5, .int v5), (6, .int v6)] [] M (hm_Q X none M') := by
  intro q
  induction q with
  | zero => intro v0 v1 v2 v3 v4 v5 v6 M M' hF; cases hF
  | succ q ih => intro v0 v1 v2 v3 v4 v5 v6 M M' hF; exact t_Trade_settle_1 hC ih hF
set_option maxRecDepth 100000 in
set_option maxHeartbeats 4000000 in
theorem k_Trade_settle {n : Nat} {S : hm_S} {v0 : Nat} {v1 : Nat} {v2 : Nat} {v3 : Nat} {v4 : Int32} {M : hm_M} {M' : hm_M} (hF : f_Trade_settle S v0 v1 v2 v3 v4 M = some M') : hm_KM yX8_settle cX8_settle 9 none 4 n S [.ref v0, .ref v1, .ref v2, .ref v3, .int v4] M none M' := by
  refine hm_enter mm_Trade_settle (Nat.le_of_ble_eq_true rfl) (fun X hC => ?_)
  show hm_U X 0 [(0, .ref v0), (1, .ref v1), (2, .ref v2), (3, .ref v3), (4, .int v4)] [] M _
  unfold f_Trade_settle at hF
  refine jv_aload_n hC 1 dX8_settle_0 rfl ?_
  obtain ⟨g1, hF⟩ := hg_some hF
  refine jv_getI hC fl_X8_25 dX8_settle_1 rfl g1 ?_
  refine jv_bipush hC dX8_settle_4 c8_12 ?_
  refine jv_mmin hC ml_X8_30 dX8_settle_6 (by omega) (Nat.le_of_ble_eq_true rfl) ?_
  obtain ⟨x2, e3, hF⟩ := hl_some hF
  refine jv_topI e3 ?_
  refine jv_istore hC [(5, .int x2), (0, .ref v0), (1, .ref v1), (2, .ref v2), (3, .ref v3), (4, .int v4)] dX8_settle_9 (by decide) rfl ?_
  refine jv_iconst hC dX8_settle_11 c32_0 ?_
  refine jv_istore hC [(6, .int (0 : Int32)), (5, .int x2), (0, .ref v0), (1, .ref v1), (2, .ref v2), (3, .ref v3), (4, .int v4)] dX8_settle_12 (by decide) rfl ?_
  refine jv_sub [2, 3, 4, 5, 6, 1, 0] (ls' := [(0, .ref v0), (1, .ref v1), (2, .ref v2), (3, .ref v3), (4, .int v4), (5, .int x2), (6, .int (0 : Int32))]) rfl ?_
  exact jv_pc 14 rfl (s_Trade_settle_1 hC hN _ _ _ _ _ _ _ _ _ hF)
set_option maxRecDepth 100000 in
set_option maxHeartbeats 4000000 in
theorem s_Ps_best_1 {X : hm_X} {n : Nat} {S : hm_S} (hC : hm_C X RX11 cX11_best 2 (some .int) 8 n S) {v0 : Nat} {v1 : Int32} {M : hm_M} {r : Int32} {M' : hm_M} (hF : b_Ps_best_1 S v0 v1 M = some (r, M')) : hm_U X 15 [(0, .ref v0), (1, .int v1)] [] M (hm_Q X (some (.int r)) M') := by
  unfold b_Ps_best_1 at hF
  refine jv_aload_n hC 0 dX11_best_15 rfl ?_
  obtain ⟨g1, hF⟩ := hg_some hF
  obtain ⟨g2, hF⟩ := hg_some hF
  refine jv_getR hC fl_X11_47 dX11_best_16 rfl g1 g2 ?_
  refine jv_aload_n hC 0 dX11_best_19 rfl ?_
  obtain ⟨g3, hF⟩ := hg_some hF
  refine jv_getR hC fl_X11_19 dX11_best_20 rfl g1 g3 ?_
  obtain ⟨g4, hF⟩ := hg_some hF
  obtain ⟨g5, hF⟩ := hg_some hF
  refine jv_getR hC fl_X11_98 dX11_best_23 rfl g4 g5 ?_
  refine jv_aload_n hC 0 dX11_best_26 rfl ?_
  obtain ⟨g6, hF⟩ := hg_some hF
  refine jv_getR hC fl_X11_26 dX11_best_27 rfl g1 g6 ?_
  refine jv_pc 30 rfl ?_
  refine jv_aload_n hC 0 dX11_best_30 rfl ?_
  obtain ⟨g7, hF⟩ := hg_some hF
  refine jv_getR hC fl_X11_40 dX11_best_31 rfl g1 g7 ?_
  refine jv_aload_n hC 0 dX11_best_34 rfl ?_
  obtain ⟨r10, M9, c8, hF⟩ := hb_some hF
  refine jv_callV hC (st := [.ref (M.2.2 v0 4), .ref (M.2.2 v0 2), .ref (M.2.2 (M.2.2 v0 1) 0), .ref (M.2.2 v0 5)]) [] (k_Ps_yearNow c8) mm_Ps_yearNow mi_Ps_yearNow ml_X11_182 dX11_best_35 g1 rfl (Nat.le_of_ble_eq_true rfl) rfl rfl (Nat.le_of_ble_eq_true rfl) ?_
  refine jv_nf 38 [.int r10, .ref (M.2.2 v0 4), .ref (M.2.2 v0 2), .ref (M.2.2 (M.2.2 v0 1) 0), .ref (M.2.2 v0 5)] rfl rfl ?_
  obtain ⟨g11, hF⟩ := hg_some hF
  obtain ⟨M13, c12, hF⟩ := hv_some hF
  refine jv_callV hC (st := []) [.ref (M.2.2 (M.2.2 v0 1) 0), .ref (M.2.2 v0 2), .ref (M.2.2 v0 4), .int r10] (k_Trade_settle c12) mm_Trade_settle mi_Trade_settle ml_X11_202 dX11_best_38 g11 rfl (Nat.le_of_ble_eq_true rfl) rfl rfl (Nat.le_of_ble_eq_true rfl) ?_
  refine jv_nf 41 [] rfl rfl ?_
  refine jv_iload_n hC 1 dX11_best_41 rfl ?_
  refine jv_iconst hC dX11_best_42 c32_m1 ?_
  refine jv_icmp_ne hC 56 dX11_best_43 (by decide) (fun h14 => ?_) (fun h14 => ?_)
  · have hF := hi_neg h14 hF
    refine jv_aload_n hC 0 dX11_best_56 rfl ?_
    obtain ⟨g15, hF⟩ := hg_some hF
    refine jv_getR hC fl_X11_47 dX11_best_57 rfl g1 g15 ?_
    obtain ⟨g16, hF⟩ := hg_some hF
    obtain ⟨g17, hF⟩ := hg_some hF
    refine jv_getR hC fl_X11_209 dX11_best_60 rfl g16 g17 ?_
    refine jv_iload_n hC 1 dX11_best_63 rfl ?_
    obtain ⟨g18, hF⟩ := hg_some hF
    obtain ⟨n19, sn19, in19⟩ := hm_ib_ok g18
    refine jv_iaload hC dX11_best_64 sn19 in19 ?_
    obtain ⟨rfl, rfl⟩ := hr_some hF
    exact jv_iret hC dX11_best_65
  · have hF := hi_pos h14 hF
    refine jv_aload_n hC 0 dX11_best_46 rfl ?_
    obtain ⟨g20, hF⟩ := hg_some hF
    refine jv_getR hC fl_X11_47 dX11_best_47 rfl g1 g20 ?_
    obtain ⟨g21, hF⟩ := hg_some hF
    refine jv_getI hC fl_X11_206 dX11_best_50 rfl g21 ?_
    refine jv_goto hC 65 dX11_best_53 (by decide) ?_
    obtain ⟨rfl, rfl⟩ := hr_some hF
    exact jv_iret hC dX11_best_65
set_option maxRecDepth 100000 in
set_option maxHeartbeats 4000000 in
theorem k_Ps_best {n : Nat} {S : hm_S} {v0 : Nat} {v1 : Int32} {M : hm_M} {r : Int32} {M' : hm_M} (hF : f_Ps_best S v0 v1 M = some (r, M')) : hm_KM yX11_best cX11_best 2 (some .int) 8 n S [.ref v0, .int v1] M (some (.int r)) M' := by
  refine hm_enter mm_Ps_best (Nat.le_of_ble_eq_true rfl) (fun X hC => ?_)
  show hm_U X 0 [(0, .ref v0), (1, .int v1)] [] M _
  unfold f_Ps_best at hF
  refine jv_iload_n hC 1 dX11_best_0 rfl ?_
  refine jv_iconst hC dX11_best_1 c32_m1 ?_
  refine jv_icmp_eq hC 15 dX11_best_2 (by decide) (fun h1 => ?_) (fun h1 => ?_)
  · have hF := hi_pos h1 hF
    exact jv_pc 15 rfl (s_Ps_best_1 hC hF)
  · have hF := hi_neg h1 hF
    refine jv_aload_n hC 0 dX11_best_5 rfl ?_
    refine jv_iload_n hC 1 dX11_best_6 rfl ?_
    obtain ⟨g2, hF⟩ := hg_some hF
    obtain ⟨r5, M4, c3, hF⟩ := hb_some hF
    refine jv_callV hC (st := []) [.int v1] (k_Ps_isPane c3) mm_Ps_isPane mi_Ps_isPane ml_X11_126 dX11_best_7 g2 rfl (Nat.le_of_ble_eq_true rfl) rfl rfl (Nat.le_of_ble_eq_true rfl) ?_
    refine jv_nf 10 [.int r5] rfl rfl ?_
    refine jv_if_ne hC 15 dX11_best_10 (by decide) (fun h6 => ?_) (fun h6 => ?_)
    · have hF := hi_neg h6 hF
      exact jv_pc 15 rfl (s_Ps_best_1 hC hF)
    · have hF := hi_pos h6 hF
      refine jv_iconst hC dX11_best_13 c32_m1 ?_
      obtain ⟨rfl, rfl⟩ := hr_some hF
      exact jv_iret hC dX11_best_14
set_option maxRecDepth 100000 in
set_option maxHeartbeats 4000000 in
theorem k_Hold_isBroken {n : Nat} {S : hm_S} {v0 : Nat} {v1 : Int32} {M : hm_M} {r : Int32} {M' : hm_M} (hF : f_Hold_isBroken S v0 v1 M = some (r, M')) : hm_KM yX2_isBroken cX2_isBroken 2 (some .boolean) 1 n S [.ref v0, .int v1] M (some (.int r)) M' := by
  refine hm_enter mm_Hold_isBroken (Nat.le_of_ble_eq_true rfl) (fun X hC => ?_)
  show hm_U X 0 [(0, .ref v0), (1, .int v1)] [] M _
  unfold f_Hold_isBroken at hF
  refine jv_aload_n hC 0 dX2_isBroken_0 rfl ?_
  obtain ⟨g1, hF⟩ := hg_some hF
  refine jv_getI hC fl_X2_15 dX2_isBroken_1 rfl g1 ?_
  refine jv_iload_n hC 1 dX2_isBroken_4 rfl ?_
  refine jv_ishr hC dX2_isBroken_5 ?_
  refine jv_iconst hC dX2_isBroken_6 c32_1 ?_
  refine jv_iand hC dX2_isBroken_7 ?_
  refine jv_iconst hC dX2_isBroken_8 c32_1 ?_
  refine jv_pc 9 rfl ?_
  refine jv_icmp_ne hC 16 dX2_isBroken_9 (by decide) (fun h2 => ?_) (fun h2 => ?_)
  · have hF := hi_neg h2 hF
    refine jv_iconst hC dX2_isBroken_16 c32_0 ?_
    obtain ⟨rfl, rfl⟩ := hr_some hF
    exact jv_zret hC (by decide) dX2_isBroken_17
  · have hF := hi_pos h2 hF
    refine jv_iconst hC dX2_isBroken_12 c32_1 ?_
    refine jv_goto hC 17 dX2_isBroken_13 (by decide) ?_
    obtain ⟨rfl, rfl⟩ := hr_some hF
    exact jv_zret hC (by decide) dX2_isBroken_17
set_option maxRecDepth 100000 in
set_option maxHeartbeats 4000000 in
theorem k_Hold_turn {n : Nat} {S : hm_S} {v0 : Nat} {v1 : Int32} {M : hm_M} {M' : hm_M} (hF : f_Hold_turn S v0 v1 M = some M') : hm_KM yX2_turn cX2_turn 2 none 1 n S [.ref v0, .int v1] M none M' := by
  refine hm_enter mm_Hold_turn (Nat.le_of_ble_eq_true rfl) (fun X hC => ?_)
  show hm_U X 0 [(0, .ref v0), (1, .int v1)] [] M _
  unfold f_Hold_turn at hF
  refine jv_aload_n hC 0 dX2_turn_0 rfl ?_
  refine jv_dup hC dX2_turn_1 rfl ?_
  obtain ⟨g1, hF⟩ := hg_some hF
  refine jv_getI hC fl_X2_15 dX2_turn_2 rfl g1 ?_
  refine jv_iconst hC dX2_turn_5 c32_1 ?_
  refine jv_iload_n hC 1 dX2_turn_6 rfl ?_
  refine jv_ishl hC dX2_turn_7 ?_
  refine jv_ixor hC dX2_turn_8 ?_
  refine jv_pc 9 rfl ?_
  refine jv_putI hC fl_X2_15 dX2_turn_9 rfl rfl rfl g1 ?_
  obtain ⟨M2, e3, hF⟩ := hl_some hF
  refine jv_mem e3 ?_
  obtain rfl := hr_somev hF
  exact jv_vret hC dX2_turn_12
set_option maxRecDepth 100000 in
set_option maxHeartbeats 4000000 in
theorem k_History_note {n : Nat} {S : hm_S} {v0 : Nat} {v1 : Int32} {v2 : Int32} {M : hm_M} {M' : hm_M} (hF : f_History_note S v0 v1 v2 M = some M') : hm_KM yX1_note cX1_note 3 none 1 n S [.ref v0, .int v1, .int v2] M none M' := by
  refine hm_enter mm_History_note (Nat.le_of_ble_eq_true rfl) (fun X hC => ?_)
  show hm_U X 0 [(0, .ref v0), (1, .int v1), (2, .int v2)] [] M _
  unfold f_History_note at hF
  refine jv_aload_n hC 0 dX1_note_0 rfl ?_
  obtain ⟨g1, hF⟩ := hg_some hF
  obtain ⟨g2, hF⟩ := hg_some hF
  refine jv_getR hC fl_X1_9 dX1_note_1 rfl g1 g2 ?_
  refine jv_aload_n hC 0 dX1_note_4 rfl ?_
  refine jv_getI hC fl_X1_22 dX1_note_5 rfl g1 ?_
  refine jv_iload_n hC 1 dX1_note_8 rfl ?_
  obtain ⟨g3, hF⟩ := hg_some hF
  obtain ⟨n4, sn4, in4⟩ := hm_ib_ok g3
  refine jv_iastore hC dX1_note_9 sn4 in4 ?_
  obtain ⟨M5, e6, hF⟩ := hl_some hF
  refine jv_mem e6 ?_
  refine jv_aload_n hC 0 dX1_note_10 rfl ?_
  refine jv_pc 11 rfl ?_
  obtain ⟨g7, hF⟩ := hg_some hF
  refine jv_getR hC fl_X1_15 dX1_note_11 rfl g1 g7 ?_
  refine jv_aload_n hC 0 dX1_note_14 rfl ?_
  refine jv_getI hC fl_X1_22 dX1_note_15 rfl g1 ?_
  refine jv_iload_n hC 2 dX1_note_18 rfl ?_
  obtain ⟨g8, hF⟩ := hg_some hF
  obtain ⟨n9, sn9, in9⟩ := hm_ib_ok g8
  refine jv_iastore hC dX1_note_19 sn9 in9 ?_
  obtain ⟨M10, e11, hF⟩ := hl_some hF
  refine jv_mem e11 ?_
  refine jv_aload_n hC 0 dX1_note_20 rfl ?_
  refine jv_aload_n hC 0 dX1_note_21 rfl ?_
  refine jv_getI hC fl_X1_22 dX1_note_22 rfl g1 ?_
  refine jv_pc 25 rfl ?_
  refine jv_iconst hC dX1_note_25 c32_1 ?_
  refine jv_iadd hC dX1_note_26 ?_
  refine jv_bipush hC dX1_note_27 c8_20 ?_
  refine jv_irem hC dX1_note_29 (by decide) ?_
  refine jv_putI hC fl_X1_22 dX1_note_30 rfl rfl rfl g1 ?_
  obtain ⟨M12, e13, hF⟩ := hl_some hF
  refine jv_mem e13 ?_
  refine jv_aload_n hC 0 dX1_note_33 rfl ?_
  refine jv_aload_n hC 0 dX1_note_34 rfl ?_
  refine jv_getI hC fl_X1_18 dX1_note_35 rfl g1 ?_
  refine jv_pc 38 rfl ?_
  refine jv_iconst hC dX1_note_38 c32_1 ?_
  refine jv_iadd hC dX1_note_39 ?_
  refine jv_bipush hC dX1_note_40 c8_20 ?_
  refine jv_mmin hC ml_X1_25 dX1_note_42 (by omega) (Nat.le_of_ble_eq_true rfl) ?_
  refine jv_putI hC fl_X1_18 dX1_note_45 rfl rfl rfl g1 ?_
  obtain ⟨M14, e15, hF⟩ := hl_some hF
  refine jv_mem e15 ?_
  obtain rfl := hr_somev hF
  exact jv_vret hC dX1_note_48
set_option maxRecDepth 100000 in
set_option maxHeartbeats 4000000 in
theorem k_Ps_breaks {n : Nat} {S : hm_S} {v0 : Nat} {v1 : Int32} {v2 : Int32} {M : hm_M} {r : Int32} {M' : hm_M} (hF : f_Ps_breaks S v0 v1 v2 M = some (r, M')) : hm_KM yX11_breaks cX11_breaks 3 (some .boolean) 2 n S [.ref v0, .int v1, .int v2] M (some (.int r)) M' := by
  refine hm_enter mm_Ps_breaks (Nat.le_of_ble_eq_true rfl) (fun X hC => ?_)
  show hm_U X 0 [(0, .ref v0), (1, .int v1), (2, .int v2)] [] M _
  unfold f_Ps_breaks at hF
  refine jv_aload_n hC 0 dX11_breaks_0 rfl ?_
  refine jv_iload_n hC 1 dX11_breaks_1 rfl ?_
  obtain ⟨g1, hF⟩ := hg_some hF
  obtain ⟨r4, M3, c2, hF⟩ := hb_some hF
  refine jv_callV hC (st := []) [.int v1] (k_Ps_isPane c2) mm_Ps_isPane mi_Ps_isPane ml_X11_126 dX11_breaks_2 g1 rfl (Nat.le_of_ble_eq_true rfl) rfl rfl (Nat.le_of_ble_eq_true rfl) ?_
  refine jv_nf 5 [.int r4] rfl rfl ?_
  refine jv_if_eq hC 20 dX11_breaks_5 (by decide) (fun h5 => ?_) (fun h5 => ?_)
  · have hF := hi_pos h5 hF
    refine jv_iconst hC dX11_breaks_20 c32_0 ?_
    obtain ⟨rfl, rfl⟩ := hr_some hF
    exact jv_zret hC (by decide) dX11_breaks_21
  · have hF := hi_neg h5 hF
    refine jv_aload_n hC 0 dX11_breaks_8 rfl ?_
    obtain ⟨g6, hF⟩ := hg_some hF
    refine jv_getR hC fl_X11_26 dX11_breaks_9 rfl g1 g6 ?_
    refine jv_iload_n hC 1 dX11_breaks_12 rfl ?_
    obtain ⟨g7, hF⟩ := hg_some hF
    obtain ⟨r10, M9, c8, hF⟩ := hb_some hF
    refine jv_callV hC (st := []) [.int v1] (k_Hold_isBroken c8) mm_Hold_isBroken mi_Hold_isBroken ml_X11_141 dX11_breaks_13 g7 rfl (Nat.le_of_ble_eq_true rfl) rfl rfl (Nat.le_of_ble_eq_true rfl) ?_
    refine jv_nf 16 [.int r10] rfl rfl ?_
    refine jv_iload_n hC 2 dX11_breaks_16 rfl ?_
    refine jv_icmp_eq hC 22 dX11_breaks_17 (by decide) (fun h11 => ?_) (fun h11 => ?_)
    · have hF := hi_pos h11 hF
      refine jv_aload_n hC 0 dX11_breaks_22 rfl ?_
      obtain ⟨g12, hF⟩ := hg_some hF
      refine jv_getR hC fl_X11_26 dX11_breaks_23 rfl g1 g12 ?_
      refine jv_iload_n hC 1 dX11_breaks_26 rfl ?_
      obtain ⟨g13, hF⟩ := hg_some hF
      obtain ⟨M15, c14, hF⟩ := hv_some hF
      refine jv_callV hC (st := []) [.int v1] (k_Hold_turn c14) mm_Hold_turn mi_Hold_turn ml_X11_219 dX11_breaks_27 g13 rfl (Nat.le_of_ble_eq_true rfl) rfl rfl (Nat.le_of_ble_eq_true rfl) ?_
      refine jv_nf 30 [] rfl rfl ?_
      refine jv_aload_n hC 0 dX11_breaks_30 rfl ?_
      obtain ⟨g16, hF⟩ := hg_some hF
      refine jv_getR hC fl_X11_33 dX11_breaks_31 rfl g1 g16 ?_
      refine jv_iload_n hC 1 dX11_breaks_34 rfl ?_
      refine jv_iconst hC dX11_breaks_35 c32_m1 ?_
      obtain ⟨g17, hF⟩ := hg_some hF
      obtain ⟨M19, c18, hF⟩ := hv_some hF
      refine jv_callV hC (st := []) [.int v1, .int (-1 : Int32)] (k_History_note c18) mm_History_note mi_History_note ml_X11_216 dX11_breaks_36 g17 rfl (Nat.le_of_ble_eq_true rfl) rfl rfl (Nat.le_of_ble_eq_true rfl) ?_
      refine jv_nf 39 [] rfl rfl ?_
      refine jv_iconst hC dX11_breaks_39 c32_1 ?_
      obtain ⟨rfl, rfl⟩ := hr_some hF
      exact jv_zret hC (by decide) dX11_breaks_40
    · have hF := hi_neg h11 hF
      refine jv_iconst hC dX11_breaks_20 c32_0 ?_
      obtain ⟨rfl, rfl⟩ := hr_some hF
      exact jv_zret hC (by decide) dX11_breaks_21
set_option maxRecDepth 100000 in
set_option maxHeartbeats 4000000 in
theorem k_Ps_canExchange {n : Nat} {S : hm_S} {v0 : Nat} {v1 : Int32} {v2 : Int32} {M : hm_M} {r : Int32} {M' : hm_M} (hF : f_Ps_canExchange S v0 v1 v2 M = some (r, M')) : hm_KM yX11_canExchange cX11_canExchange 3 (some .boolean) 2 n S [.ref v0, .int v1, .int v2] M (some (.int r)) M' := by
  refine hm_enter mm_Ps_canExchange (Nat.le_of_ble_eq_true rfl) (fun X hC => ?_)
  show hm_U X 0 [(0, .ref v0), (1, .int v1), (2, .int v2)] [] M _
  unfold f_Ps_canExchange at hF
  refine jv_aload_n hC 0 dX11_canExchange_0 rfl ?_
  refine jv_iload_n hC 1 dX11_canExchange_1 rfl ?_
  obtain ⟨g1, hF⟩ := hg_some hF
  obtain ⟨r4, M3, c2, hF⟩ := hb_some hF
  refine jv_callV hC (st := []) [.int v1] (k_Ps_isPane c2) mm_Ps_isPane mi_Ps_isPane ml_X11_126 dX11_canExchange_2 g1 rfl (Nat.le_of_ble_eq_true rfl) rfl rfl (Nat.le_of_ble_eq_true rfl) ?_
  refine jv_nf 5 [.int r4] rfl rfl ?_
  refine jv_if_eq hC 41 dX11_canExchange_5 (by decide) (fun h5 => ?_) (fun h5 => ?_)
  · have hF := hi_pos h5 hF
    refine jv_iconst hC dX11_canExchange_41 c32_0 ?_
    obtain ⟨rfl, rfl⟩ := hr_some hF
    exact jv_zret hC (by decide) dX11_canExchange_42
  · have hF := hi_neg h5 hF
    refine jv_aload_n hC 0 dX11_canExchange_8 rfl ?_
    refine jv_iload_n hC 2 dX11_canExchange_9 rfl ?_
    obtain ⟨r8, M7, c6, hF⟩ := hb_some hF
    refine jv_callV hC (st := []) [.int v2] (k_Ps_isPane c6) mm_Ps_isPane mi_Ps_isPane ml_X11_126 dX11_canExchange_10 g1 rfl (Nat.le_of_ble_eq_true rfl) rfl rfl (Nat.le_of_ble_eq_true rfl) ?_
    refine jv_nf 13 [.int r8] rfl rfl ?_
    refine jv_if_eq hC 41 dX11_canExchange_13 (by decide) (fun h9 => ?_) (fun h9 => ?_)
    · have hF := hi_pos h9 hF
      refine jv_iconst hC dX11_canExchange_41 c32_0 ?_
      obtain ⟨rfl, rfl⟩ := hr_some hF
      exact jv_zret hC (by decide) dX11_canExchange_42
    · have hF := hi_neg h9 hF
      refine jv_aload_n hC 0 dX11_canExchange_16 rfl ?_
      obtain ⟨g10, hF⟩ := hg_some hF
      refine jv_getR hC fl_X11_26 dX11_canExchange_17 rfl g1 g10 ?_
      obtain ⟨g11, hF⟩ := hg_some hF
      obtain ⟨g12, hF⟩ := hg_some hF
      refine jv_getR hC fl_X11_135 dX11_canExchange_20 rfl g11 g12 ?_
      refine jv_iload_n hC 1 dX11_canExchange_23 rfl ?_
      obtain ⟨g13, hF⟩ := hg_some hF
      obtain ⟨n14, sn14, in14⟩ := hm_ib_ok g13
      refine jv_iaload hC dX11_canExchange_24 sn14 in14 ?_
      refine jv_aload_n hC 0 dX11_canExchange_25 rfl ?_
      refine jv_getR hC fl_X11_26 dX11_canExchange_26 rfl g1 g10 ?_
      refine jv_pc 29 rfl ?_
      refine jv_getR hC fl_X11_135 dX11_canExchange_29 rfl g11 g12 ?_
      refine jv_iload_n hC 2 dX11_canExchange_32 rfl ?_
      obtain ⟨g15, hF⟩ := hg_some hF
      obtain ⟨n16, sn16, in16⟩ := hm_ib_ok g15
      refine jv_iaload hC dX11_canExchange_33 sn16 in16 ?_
      refine jv_icmp_eq hC 41 dX11_canExchange_34 (by decide) (fun h17 => ?_) (fun h17 => ?_)
      · have hF := hi_pos h17 hF
        refine jv_iconst hC dX11_canExchange_41 c32_0 ?_
        obtain ⟨rfl, rfl⟩ := hr_some hF
        exact jv_zret hC (by decide) dX11_canExchange_42
      · have hF := hi_neg h17 hF
        refine jv_iconst hC dX11_canExchange_37 c32_1 ?_
        refine jv_goto hC 42 dX11_canExchange_38 (by decide) ?_
        obtain ⟨rfl, rfl⟩ := hr_some hF
        exact jv_zret hC (by decide) dX11_canExchange_42
set_option maxRecDepth 100000 in
set_option maxHeartbeats 4000000 in
theorem k_Ps_isTime {n : Nat} {S : hm_S} {v0 : Int32} {v1 : Int32} {M : hm_M} {r : Int32} {M' : hm_M} (hF : f_Ps_isTime S v0 v1 M = some (r, M')) : hm_KM yX11_isTime cX11_isTime 2 (some .boolean) 1 n S [.int v0, .int v1] M (some (.int r)) M' := by
  refine hm_enter mm_Ps_isTime (Nat.le_of_ble_eq_true rfl) (fun X hC => ?_)
  show hm_U X 0 [(0, .int v0), (1, .int v1)] [] M _
  unfold f_Ps_isTime at hF
  refine jv_iload_n hC 0 dX11_isTime_0 rfl ?_
  refine jv_if_lt hC 24 dX11_isTime_1 (by decide) (fun h1 => ?_) (fun h1 => ?_)
  · have hF := hi_pos h1 hF
    refine jv_iconst hC dX11_isTime_24 c32_0 ?_
    obtain ⟨rfl, rfl⟩ := hr_some hF
    exact jv_zret hC (by decide) dX11_isTime_25
  · have hF := hi_neg h1 hF
    refine jv_iload_n hC 0 dX11_isTime_4 rfl ?_
    refine jv_bipush hC dX11_isTime_5 c8_52 ?_
    refine jv_icmp_ge hC 24 dX11_isTime_7 (by decide) (fun h2 => ?_) (fun h2 => ?_)
    · have hF := hi_pos h2 hF
      refine jv_iconst hC dX11_isTime_24 c32_0 ?_
      obtain ⟨rfl, rfl⟩ := hr_some hF
      exact jv_zret hC (by decide) dX11_isTime_25
    · have hF := hi_neg h2 hF
      refine jv_iload_n hC 1 dX11_isTime_10 rfl ?_
      refine jv_if_lt hC 24 dX11_isTime_11 (by decide) (fun h3 => ?_) (fun h3 => ?_)
      · have hF := hi_pos h3 hF
        refine jv_iconst hC dX11_isTime_24 c32_0 ?_
        obtain ⟨rfl, rfl⟩ := hr_some hF
        exact jv_zret hC (by decide) dX11_isTime_25
      · have hF := hi_neg h3 hF
        refine jv_iload_n hC 1 dX11_isTime_14 rfl ?_
        refine jv_bipush hC dX11_isTime_15 c8_24 ?_
        refine jv_icmp_ge hC 24 dX11_isTime_17 (by decide) (fun h4 => ?_) (fun h4 => ?_)
        · have hF := hi_pos h4 hF
          refine jv_iconst hC dX11_isTime_24 c32_0 ?_
          obtain ⟨rfl, rfl⟩ := hr_some hF
          exact jv_zret hC (by decide) dX11_isTime_25
        · have hF := hi_neg h4 hF
          refine jv_iconst hC dX11_isTime_20 c32_1 ?_
          refine jv_goto hC 25 dX11_isTime_21 (by decide) ?_
          obtain ⟨rfl, rfl⟩ := hr_some hF
          exact jv_zret hC (by decide) dX11_isTime_25
set_option maxRecDepth 100000 in
set_option maxHeartbeats 4000000 in
theorem k_Ps_timeOf {n : Nat} {S : hm_S} {v0 : Int32} {v1 : Int32} {M : hm_M} {r : Int32} {M' : hm_M} (hF : f_Ps_timeOf S v0 v1 M = some (r, M')) : hm_KM yX11_timeOf cX11_timeOf 2 (some .int) 1 n S [.int v0, .int v1] M (some (.int r)) M' := by
  refine hm_enter mm_Ps_timeOf (Nat.le_of_ble_eq_true rfl) (fun X hC => ?_)
  show hm_U X 0 [(0, .int v0), (1, .int v1)] [] M _
  unfold f_Ps_timeOf at hF
  refine jv_iload_n hC 0 dX11_timeOf_0 rfl ?_
  refine jv_bipush hC dX11_timeOf_1 c8_24 ?_
  refine jv_imul hC dX11_timeOf_3 ?_
  refine jv_iload_n hC 1 dX11_timeOf_4 rfl ?_
  refine jv_iadd hC dX11_timeOf_5 ?_
  obtain ⟨rfl, rfl⟩ := hr_some hF
  exact jv_iret hC dX11_timeOf_6
set_option maxRecDepth 100000 in
set_option maxHeartbeats 4000000 in
theorem k_Light_colourOn {n : Nat} {S : hm_S} {v0 : Nat} {v1 : Int32} {v2 : Int32} {M : hm_M} {r : Int32} {M' : hm_M} (hF : f_Light_colourOn S v0 v1 v2 M = some (r, M')) : hm_KM yX4_colourOn cX4_colourOn 3 (some .int) 2 n S [.ref v0, .int v1, .int v2] M (some (.int r)) M' := by
  refine hm_enter mm_Light_colourOn (Nat.le_of_ble_eq_true rfl) (fun X hC => ?_)
  show hm_U X 0 [(0, .ref v0), (1, .int v1), (2, .int v2)] [] M _
  unfold f_Light_colourOn at hF
  refine jv_aload_n hC 0 dX4_colourOn_0 rfl ?_
  obtain ⟨g1, hF⟩ := hg_some hF
  obtain ⟨g2, hF⟩ := hg_some hF
  refine jv_getR hC fl_X4_12 dX4_colourOn_1 rfl g1 g2 ?_
  refine jv_aload_n hC 0 dX4_colourOn_4 rfl ?_
  refine jv_iload_n hC 1 dX4_colourOn_5 rfl ?_
  refine jv_iload_n hC 2 dX4_colourOn_6 rfl ?_
  obtain ⟨r5, M4, c3, hF⟩ := hb_some hF
  refine jv_callV hC (st := [.ref (M.2.2 v0 0)]) [.int v1, .int v2] (k_Light_panesOn c3) mm_Light_panesOn mi_Light_panesOn ml_X4_80 dX4_colourOn_7 g1 rfl (Nat.le_of_ble_eq_true rfl) rfl rfl (Nat.le_of_ble_eq_true rfl) ?_
  refine jv_nf 10 [.int r5, .ref (M.2.2 v0 0)] rfl rfl ?_
  obtain ⟨g6, hF⟩ := hg_some hF
  obtain ⟨r9, M8, c7, hF⟩ := hb_some hF
  refine jv_callV hC (st := []) [.int r5] (k_Chapel_colourOf c7) mm_Chapel_colourOf mi_Chapel_colourOf ml_X4_83 dX4_colourOn_10 g6 rfl (Nat.le_of_ble_eq_true rfl) rfl rfl (Nat.le_of_ble_eq_true rfl) ?_
  refine jv_nf 13 [.int r9] rfl rfl ?_
  obtain ⟨rfl, rfl⟩ := hr_some hF
  exact jv_iret hC dX4_colourOn_13
set_option maxRecDepth 100000 in
set_option maxHeartbeats 4000000 in
theorem t_Ps_candlesAt_1 {X : hm_X} {n : Nat} {S : hm_S} (hC : hm_C X RX11 cX11_candlesAt 5 (some .int) 5 n S) {k21 : Nat → Int32 → Int32 → Int32 → hm_M → Option (Int32 × hm_M)} (hk21 : ∀ (v0 : Nat) (v2 : Int32) (v3 : Int32) (v4 : Int32)  (M : hm_M) (r : Int32) (M' : hm_M), k21 v0 v2 v3 v4 M = some (r, M') → hm_U X 21 [(0, .ref v0), (2, .int v2), (3, .int v3), (4, .int v4)] [] M (hm_Q X (some (.int r)) M')) {v0 : Nat} {v2 : Int32} {v3 : Int32} {v4 : Int32} {M : hm_M} {r : Int32} {M' : hm_M} (hF : b_Ps_candlesAt_1 S k21 v0 v2 v3 v4 M = some (r, M')) : hm_U X 21 [(0, .ref v0), (2, .int v2), (3, .int v3), (4, .int v4)] [] M (hm_Q X (some (.int r)) M') := by
  unfold b_Ps_candlesAt_1 at hF
  refine jv_iload hC 3 dX11_candlesAt_21 rfl ?_
  refine jv_aload_n hC 0 dX11_candlesAt_23 rfl ?_
  obtain ⟨g1, hF⟩ := hg_some hF
  obtain ⟨g2, hF⟩ := hg_some hF
  refine jv_getR hC fl_X11_26 dX11_candlesAt_24 rfl g1 g2 ?_
  obtain ⟨g3, hF⟩ := hg_some hF
  refine jv_getI hC fl_X11_249 dX11_candlesAt_27 rfl g3 ?_
  refine jv_icmp_ge hC 80 dX11_candlesAt_30 (by decide) (fun h4 => ?_) (fun h4 => ?_)
  · have hF := hi_pos h4 hF
    refine jv_iload_n hC 2 dX11_candlesAt_80 rfl ?_
    obtain ⟨rfl, rfl⟩ := hr_some hF
    exact jv_iret hC dX11_candlesAt_81
  · have hF := hi_neg h4 hF
    refine jv_iload hC 3 dX11_candlesAt_33 rfl ?_
    refine jv_bipush hC dX11_candlesAt_35 c8_8 ?_
    refine jv_icmp_ge hC 80 dX11_candlesAt_37 (by decide) (fun h5 => ?_) (fun h5 => ?_)
    · have hF := hi_pos h5 hF
      refine jv_iload_n hC 2 dX11_candlesAt_80 rfl ?_
      obtain ⟨rfl, rfl⟩ := hr_some hF
      exact jv_iret hC dX11_candlesAt_81
    · have hF := hi_neg h5 hF
      refine jv_aload_n hC 0 dX11_candlesAt_40 rfl ?_
      obtain ⟨g6, hF⟩ := hg_some hF
      refine jv_getR hC fl_X11_19 dX11_candlesAt_41 rfl g1 g6 ?_
      refine jv_aload_n hC 0 dX11_candlesAt_44 rfl ?_
      refine jv_getR hC fl_X11_26 dX11_candlesAt_45 rfl g1 g2 ?_
      obtain ⟨g7, hF⟩ := hg_some hF
      refine jv_getR hC fl_X11_313 dX11_candlesAt_48 rfl g3 g7 ?_
      refine jv_iload hC 3 dX11_candlesAt_51 rfl ?_
      obtain ⟨g8, hF⟩ := hg_some hF
      obtain ⟨n9, sn9, in9⟩ := hm_ib_ok g8
      refine jv_iaload hC dX11_candlesAt_53 sn9 in9 ?_
      refine jv_pc 54 rfl ?_
      refine jv_iload_n hC 1 dX11_candlesAt_54 rfl ?_
      obtain ⟨g10, hF⟩ := hg_some hF
      obtain ⟨r13, M12, c11, hF⟩ := hb_some hF
      refine jv_callV hC (st := []) [.int (M.1 (M.2.2 (M.2.2 v0 2) 3) v4.toNatClampNeg), .int v2] (k_Light_colourOn c11) mm_Light_colourOn mi_Light_colourOn ml_X11_316 dX11_candlesAt_55 g10 rfl (Nat.le_of_ble_eq_true rfl) rfl rfl (Nat.le_of_ble_eq_true rfl) ?_
      refine jv_nf 58 [.int r13] rfl rfl ?_
      refine jv_aload_n hC 0 dX11_candlesAt_58 rfl ?_
      obtain ⟨g14, hF⟩ := hg_some hF
      refine jv_getR hC fl_X11_26 dX11_candlesAt_59 rfl g1 g14 ?_
      obtain ⟨g15, hF⟩ := hg_some hF
      obtain ⟨g16, hF⟩ := hg_some hF
      refine jv_getR hC fl_X11_319 dX11_candlesAt_62 rfl g15 g16 ?_
      refine jv_iload hC 3 dX11_candlesAt_65 rfl ?_
      obtain ⟨g17, hF⟩ := hg_some hF
      obtain ⟨n18, sn18, in18⟩ := hm_ib_ok g17
      refine jv_iaload hC dX11_candlesAt_67 sn18 in18 ?_
      refine jv_icmp_eq hC 74 dX11_candlesAt_68 (by decide) (fun h19 => ?_) (fun h19 => ?_)
      · have hF := hi_pos h19 hF
        refine jv_iinc hC 3 [(4, .int (v4 + (1 : Int32))), (0, .ref v0), (2, .int v2), (3, .int v3)] dX11_candlesAt_74 rfl c32_1 (by decide) rfl ?_
        refine jv_goto hC 21 dX11_candlesAt_77 (by decide) ?_
        refine jv_sub [1, 2, 3, 0] (ls' := [(0, .ref v0), (2, .int v2), (3, .int v3), (4, .int (v4 + (1 : Int32)))]) rfl ?_
        exact jv_pc 21 rfl (hk21 _ _ _ _ _ _ _ hF)
      · have hF := hi_neg h19 hF
        refine jv_iinc hC 2 [(3, .int (v3 + (1 : Int32))), (0, .ref v0), (2, .int v2), (4, .int v4)] dX11_candlesAt_71 rfl c32_1 (by decide) rfl ?_
        refine jv_iinc hC 3 [(4, .int (v4 + (1 : Int32))), (3, .int (v3 + (1 : Int32))), (0, .ref v0), (2, .int v2)] dX11_candlesAt_74 rfl c32_1 (by decide) rfl ?_
        refine jv_goto hC 21 dX11_candlesAt_77 (by decide) ?_
        refine jv_sub [2, 3, 1, 0] (ls' := [(0, .ref v0), (2, .int v2), (3, .int (v3 + (1 : Int32))), (4, .int (v4 + (1 : Int32)))]) rfl ?_
        exact jv_pc 21 rfl (hk21 _ _ _ _ _ _ _ hF)
theorem s_Ps_candlesAt_1 {X : hm_X} {n : Nat} {S : hm_S} (hC : hm_C X RX11 cX11_candlesAt 5 (some .int) 5 n S) : ∀ (q : Nat) (v0 : Nat) (v2 : Int32) (v3 : Int32) (v4 : Int32) (M : hm_M) (r : Int32) (M' : hm_M), f_Ps_candlesAt_1 S  q v0 v2 v3 v4 M = some (r, M') → hm_U X 21 [(0, .ref v0), (2, .int v2), (3, .int v3), (4, .int v4)] [] M (hm_Q X (some (.int r)) M') := by
  intro q
  induction q with
  | zero => intro v0 v2 v3 v4 M r M' hF; cases hF
  | succ q ih => intro v0 v2 v3 v4 M r M' hF; exact t_Ps_candlesAt_1 hC ih hF
set_option maxRecDepth 100000 in
set_option maxHeartbeats 4000000 in
theorem k_Ps_candlesAt {n : Nat} {S : hm_S} {v0 : Nat} {v1 : Int32} {M : hm_M} {r : Int32} {M' : hm_M} (hF : f_Ps_candlesAt S v0 v1 M = some (r, M')) : hm_KM yX11_candlesAt cX11_candlesAt 5 (some .int) 5 n S [.ref v0, .int v1] M (some (.int r)) M' := by
  refine hm_enter mm_Ps_candlesAt (Nat.le_of_ble_eq_true rfl) (fun X hC => ?_)
  show hm_U X 0 [(0, .ref v0), (1, .int v1)] [] M _
  unfold f_Ps_candlesAt at hF
  refine jv_aload_n hC 0 dX11_candlesAt_0 rfl ?_
  obtain ⟨g1, hF⟩ := hg_some hF
  obtain ⟨g2, hF⟩ := hg_some hF
  refine jv_getR hC fl_X11_19 dX11_candlesAt_1 rfl g1 g2 ?_
  refine jv_iload_n hC 1 dX11_candlesAt_4 rfl ?_
  obtain ⟨g3, hF⟩ := hg_some hF
  obtain ⟨M5, c4, hF⟩ := hv_some hF
  refine jv_callV hC (st := []) [.int v1] (k_Light_turnTo c4) mm_Light_turnTo mi_Light_turnTo ml_X11_152 dX11_candlesAt_5 g3 rfl (Nat.le_of_ble_eq_true rfl) rfl rfl (Nat.le_of_ble_eq_true rfl) ?_
  refine jv_nf 8 [] rfl rfl ?_
  refine jv_aload_n hC 0 dX11_candlesAt_8 rfl ?_
  obtain ⟨g6, hF⟩ := hg_some hF
  refine jv_getR hC fl_X11_26 dX11_candlesAt_9 rfl g1 g6 ?_
  obtain ⟨g7, hF⟩ := hg_some hF
  obtain ⟨r10, M9, c8, hF⟩ := hb_some hF
  refine jv_callV hC (st := []) [] (k_Hold_lit c8) mm_Hold_lit mi_Hold_lit ml_X11_165 dX11_candlesAt_12 g7 rfl (Nat.le_of_ble_eq_true rfl) rfl rfl (Nat.le_of_ble_eq_true rfl) ?_
  refine jv_nf 15 [.int r10] rfl rfl ?_
  refine jv_istore_n hC [(2, .int r10), (0, .ref v0), (1, .int v1)] dX11_candlesAt_15 (by decide) rfl ?_
  refine jv_iconst hC dX11_candlesAt_16 c32_0 ?_
  refine jv_istore_n hC [(3, .int (0 : Int32)), (2, .int r10), (0, .ref v0), (1, .int v1)] dX11_candlesAt_17 (by decide) rfl ?_
  refine jv_iconst hC dX11_candlesAt_18 c32_0 ?_
  refine jv_istore hC [(4, .int (0 : Int32)), (3, .int (0 : Int32)), (2, .int r10), (0, .ref v0), (1, .int v1)] dX11_candlesAt_19 (by decide) rfl ?_
  refine jv_sub [3, 2, 1, 0] (ls' := [(0, .ref v0), (2, .int r10), (3, .int (0 : Int32)), (4, .int (0 : Int32))]) rfl ?_
  exact jv_pc 21 rfl (s_Ps_candlesAt_1 hC hN _ _ _ _ _ _ _ hF)
set_option maxRecDepth 100000 in
set_option maxHeartbeats 4000000 in
theorem k_Ps_candles {n : Nat} {S : hm_S} {v0 : Nat} {v1 : Int32} {v2 : Int32} {M : hm_M} {r : Int32} {M' : hm_M} (hF : f_Ps_candles S v0 v1 v2 M = some (r, M')) : hm_KM yX11_candles cX11_candles 3 (some .int) 6 n S [.ref v0, .int v1, .int v2] M (some (.int r)) M' := by
  refine hm_enter mm_Ps_candles (Nat.le_of_ble_eq_true rfl) (fun X hC => ?_)
  show hm_U X 0 [(0, .ref v0), (1, .int v1), (2, .int v2)] [] M _
  unfold f_Ps_candles at hF
  refine jv_iload_n hC 1 dX11_candles_0 rfl ?_
  refine jv_iload_n hC 2 dX11_candles_1 rfl ?_
  obtain ⟨r3, M2, c1, hF⟩ := hb_some hF
  refine jv_callS hC (st := []) [.int v1, .int v2] (k_Ps_isTime c1) mm_Ps_isTime ms_Ps_isTime ml_X11_144 dX11_candles_2 (Nat.le_of_ble_eq_true rfl) rfl rfl (Nat.le_of_ble_eq_true rfl) ?_
  refine jv_nf 5 [.int r3] rfl rfl ?_
  refine jv_if_ne hC 10 dX11_candles_5 (by decide) (fun h4 => ?_) (fun h4 => ?_)
  · have hF := hi_neg h4 hF
    refine jv_aload_n hC 0 dX11_candles_10 rfl ?_
    refine jv_iload_n hC 1 dX11_candles_11 rfl ?_
    refine jv_iload_n hC 2 dX11_candles_12 rfl ?_
    obtain ⟨r7, M6, c5, hF⟩ := hb_some hF
    refine jv_callS hC (st := [.ref v0]) [.int v1, .int v2] (k_Ps_timeOf c5) mm_Ps_timeOf ms_Ps_timeOf ml_X11_148 dX11_candles_13 (Nat.le_of_ble_eq_true rfl) rfl rfl (Nat.le_of_ble_eq_true rfl) ?_
    refine jv_nf 16 [.int r7, .ref v0] rfl rfl ?_
    obtain ⟨g8, hF⟩ := hg_some hF
    obtain ⟨r11, M10, c9, hF⟩ := hb_some hF
    refine jv_callV hC (st := []) [.int r7] (k_Ps_candlesAt c9) mm_Ps_candlesAt mi_Ps_candlesAt ml_X11_246 dX11_candles_16 g8 rfl (Nat.le_of_ble_eq_true rfl) rfl rfl (Nat.le_of_ble_eq_true rfl) ?_
    refine jv_nf 19 [.int r11] rfl rfl ?_
    obtain ⟨rfl, rfl⟩ := hr_some hF
    exact jv_iret hC dX11_candles_19
  · have hF := hi_pos h4 hF
    refine jv_iconst hC dX11_candles_8 c32_m1 ?_
    obtain ⟨rfl, rfl⟩ := hr_some hF
    exact jv_iret hC dX11_candles_9
set_option maxRecDepth 100000 in
set_option maxHeartbeats 4000000 in
theorem k_Tape_isBlank {n : Nat} {S : hm_S} {v0 : Int32} {M : hm_M} {r : Int32} {M' : hm_M} (hF : f_Tape_isBlank S v0 M = some (r, M')) : hm_KM yX7_isBlank cX7_isBlank 1 (some .boolean) 1 n S [.int v0] M (some (.int r)) M' := by
  refine hm_enter mm_Tape_isBlank (Nat.le_of_ble_eq_true rfl) (fun X hC => ?_)
  show hm_U X 0 [(0, .int v0)] [] M _
  unfold f_Tape_isBlank at hF
  refine jv_iload_n hC 0 dX7_isBlank_0 rfl ?_
  refine jv_bipush hC dX7_isBlank_1 c8_10 ?_
  refine jv_icmp_eq hC 12 dX7_isBlank_3 (by decide) (fun h1 => ?_) (fun h1 => ?_)
  · have hF := hi_pos h1 hF
    refine jv_iconst hC dX7_isBlank_12 c32_1 ?_
    refine jv_goto hC 17 dX7_isBlank_13 (by decide) ?_
    obtain ⟨rfl, rfl⟩ := hr_some hF
    exact jv_zret hC (by decide) dX7_isBlank_17
  · have hF := hi_neg h1 hF
    refine jv_iload_n hC 0 dX7_isBlank_6 rfl ?_
    refine jv_bipush hC dX7_isBlank_7 c8_32 ?_
    refine jv_icmp_ne hC 16 dX7_isBlank_9 (by decide) (fun h2 => ?_) (fun h2 => ?_)
    · have hF := hi_neg h2 hF
      refine jv_iconst hC dX7_isBlank_16 c32_0 ?_
      obtain ⟨rfl, rfl⟩ := hr_some hF
      exact jv_zret hC (by decide) dX7_isBlank_17
    · have hF := hi_pos h2 hF
      refine jv_iconst hC dX7_isBlank_12 c32_1 ?_
      refine jv_goto hC 17 dX7_isBlank_13 (by decide) ?_
      obtain ⟨rfl, rfl⟩ := hr_some hF
      exact jv_zret hC (by decide) dX7_isBlank_17
set_option maxRecDepth 100000 in
set_option maxHeartbeats 4000000 in
theorem k_Tape_isLetter {n : Nat} {S : hm_S} {v0 : Int32} {M : hm_M} {r : Int32} {M' : hm_M} (hF : f_Tape_isLetter S v0 M = some (r, M')) : hm_KM yX7_isLetter cX7_isLetter 1 (some .boolean) 1 n S [.int v0] M (some (.int r)) M' := by
  refine hm_enter mm_Tape_isLetter (Nat.le_of_ble_eq_true rfl) (fun X hC => ?_)
  show hm_U X 0 [(0, .int v0)] [] M _
  unfold f_Tape_isLetter at hF
  refine jv_iload_n hC 0 dX7_isLetter_0 rfl ?_
  refine jv_bipush hC dX7_isLetter_1 c8_97 ?_
  refine jv_icmp_lt hC 16 dX7_isLetter_3 (by decide) (fun h1 => ?_) (fun h1 => ?_)
  · have hF := hi_pos h1 hF
    refine jv_iconst hC dX7_isLetter_16 c32_0 ?_
    obtain ⟨rfl, rfl⟩ := hr_some hF
    exact jv_zret hC (by decide) dX7_isLetter_17
  · have hF := hi_neg h1 hF
    refine jv_iload_n hC 0 dX7_isLetter_6 rfl ?_
    refine jv_bipush hC dX7_isLetter_7 c8_122 ?_
    refine jv_icmp_gt hC 16 dX7_isLetter_9 (by decide) (fun h2 => ?_) (fun h2 => ?_)
    · have hF := hi_pos h2 hF
      refine jv_iconst hC dX7_isLetter_16 c32_0 ?_
      obtain ⟨rfl, rfl⟩ := hr_some hF
      exact jv_zret hC (by decide) dX7_isLetter_17
    · have hF := hi_neg h2 hF
      refine jv_iconst hC dX7_isLetter_12 c32_1 ?_
      refine jv_goto hC 17 dX7_isLetter_13 (by decide) ?_
      obtain ⟨rfl, rfl⟩ := hr_some hF
      exact jv_zret hC (by decide) dX7_isLetter_17
set_option maxRecDepth 100000 in
set_option maxHeartbeats 4000000 in
theorem t_Tape_takeLetters_1 {X : hm_X} {n : Nat} {S : hm_S} (hC : hm_C X RX7 cX7_takeLetters 1 none 2 n S) {k5 : Nat → hm_M → Option hm_M} (hk5 : ∀ (v0 : Nat)  (M : hm_M) (M' : hm_M), k5 v0 M = some M' → hm_U X 5 [(0, .ref v0)] [] M (hm_Q X none M')) {v0 : Nat} {M : hm_M} {M' : hm_M} (hF : b_Tape_takeLetters_1 S k5 v0 M = some M') : hm_U X 5 [(0, .ref v0)] [] M (hm_Q X none M') := by
  unfold b_Tape_takeLetters_1 at hF
  refine jv_aload_n hC 0 dX7_takeLetters_5 rfl ?_
  obtain ⟨g1, hF⟩ := hg_some hF
  refine jv_getI hC fl_X7_19 dX7_takeLetters_6 rfl g1 ?_
  refine jv_aload_n hC 0 dX7_takeLetters_9 rfl ?_
  refine jv_getI hC fl_X7_15 dX7_takeLetters_10 rfl g1 ?_
  refine jv_icmp_ge hC 72 dX7_takeLetters_13 (by decide) (fun h2 => ?_) (fun h2 => ?_)
  · have hF := hi_pos h2 hF
    obtain rfl := hr_somev hF
    exact jv_vret hC dX7_takeLetters_72
  · have hF := hi_neg h2 hF
    refine jv_aload_n hC 0 dX7_takeLetters_16 rfl ?_
    obtain ⟨g3, hF⟩ := hg_some hF
    refine jv_getR hC fl_X7_9 dX7_takeLetters_17 rfl g1 g3 ?_
    refine jv_aload_n hC 0 dX7_takeLetters_20 rfl ?_
    refine jv_getI hC fl_X7_19 dX7_takeLetters_21 rfl g1 ?_
    obtain ⟨g4, hF⟩ := hg_some hF
    obtain ⟨n5, sn5, in5⟩ := hm_ib_ok g4
    refine jv_baload hC dX7_takeLetters_24 sn5 in5 ?_
    obtain ⟨r8, M7, c6, hF⟩ := hb_some hF
    refine jv_callS hC (st := []) [.int (M.1 (M.2.2 v0 0) (M.1 v0 2).toNatClampNeg)] (k_Tape_isLetter c6) mm_Tape_isLetter ms_Tape_isLetter ml_X7_45 dX7_takeLetters_25 (Nat.le_of_ble_eq_true rfl) rfl rfl (Nat.le_of_ble_eq_true rfl) ?_
    refine jv_nf 28 [.int r8] rfl rfl ?_
    refine jv_if_eq hC 72 dX7_takeLetters_28 (by decide) (fun h9 => ?_) (fun h9 => ?_)
    · have hF := hi_pos h9 hF
      obtain rfl := hr_somev hF
      exact jv_vret hC dX7_takeLetters_72
    · have hF := hi_neg h9 hF
      refine jv_aload_n hC 0 dX7_takeLetters_31 rfl ?_
      refine jv_aload_n hC 0 dX7_takeLetters_32 rfl ?_
      refine jv_getL hC fl_X7_31 dX7_takeLetters_33 rfl g1 ?_
      refine jv_ldc2 hC cl_X7_69 dX7_takeLetters_36 ?_
      refine jv_lmul hC dX7_takeLetters_39 ?_
      refine jv_aload_n hC 0 dX7_takeLetters_40 rfl ?_
      obtain ⟨g10, hF⟩ := hg_some hF
      refine jv_getR hC fl_X7_9 dX7_takeLetters_41 rfl g1 g10 ?_
      refine jv_pc 44 rfl ?_
      refine jv_aload_n hC 0 dX7_takeLetters_44 rfl ?_
      refine jv_getI hC fl_X7_19 dX7_takeLetters_45 rfl g1 ?_
      obtain ⟨g11, hF⟩ := hg_some hF
      obtain ⟨n12, sn12, in12⟩ := hm_ib_ok g11
      refine jv_baload hC dX7_takeLetters_48 sn12 in12 ?_
      refine jv_bipush hC dX7_takeLetters_49 c8_97 ?_
      refine jv_isub hC dX7_takeLetters_51 ?_
      refine jv_iconst hC dX7_takeLetters_52 c32_1 ?_
      refine jv_iadd hC dX7_takeLetters_53 ?_
      refine jv_i2l hC dX7_takeLetters_54 ?_
      refine jv_pc 55 rfl ?_
      refine jv_ladd hC dX7_takeLetters_55 ?_
      refine jv_putL hC fl_X7_31 dX7_takeLetters_56 rfl g1 ?_
      obtain ⟨M13, e14, hF⟩ := hl_some hF
      refine jv_mem e14 ?_
      refine jv_aload_n hC 0 dX7_takeLetters_59 rfl ?_
      refine jv_dup hC dX7_takeLetters_60 rfl ?_
      refine jv_getI hC fl_X7_19 dX7_takeLetters_61 rfl g1 ?_
      refine jv_iconst hC dX7_takeLetters_64 c32_1 ?_
      refine jv_iadd hC dX7_takeLetters_65 ?_
      refine jv_putI hC fl_X7_19 dX7_takeLetters_66 rfl rfl rfl g1 ?_
      obtain ⟨M15, e16, hF⟩ := hl_some hF
      refine jv_mem e16 ?_
      refine jv_goto hC 5 dX7_takeLetters_69 (by decide) ?_
      exact jv_pc 5 rfl (hk5 _ _ _ hF)
theorem s_Tape_takeLetters_1 {X : hm_X} {n : Nat} {S : hm_S} (hC : hm_C X RX7 cX7_takeLetters 1 none 2 n S) : ∀ (q : Nat) (v0 : Nat) (M : hm_M) (M' : hm_M), f_Tape_takeLetters_1 S  q v0 M = some M' → hm_U X 5 [(0, .ref v0)] [] M (hm_Q X none M') := by
  intro q
  induction q with
  | zero => intro v0 M M' hF; cases hF
  | succ q ih => intro v0 M M' hF; exact t_Tape_takeLetters_1 hC ih hF
set_option maxRecDepth 100000 in
set_option maxHeartbeats 4000000 in
theorem k_Tape_takeLetters {n : Nat} {S : hm_S} {v0 : Nat} {M : hm_M} {M' : hm_M} (hF : f_Tape_takeLetters S v0 M = some M') : hm_KM yX7_takeLetters cX7_takeLetters 1 none 2 n S [.ref v0] M none M' := by
  refine hm_enter mm_Tape_takeLetters (Nat.le_of_ble_eq_true rfl) (fun X hC => ?_)
  show hm_U X 0 [(0, .ref v0)] [] M _
  unfold f_Tape_takeLetters at hF
  refine jv_aload_n hC 0 dX7_takeLetters_0 rfl ?_
  refine jv_lconst hC (v := 0) dX7_takeLetters_1 (by decide) ?_
  obtain ⟨g1, hF⟩ := hg_some hF
  refine jv_putL hC fl_X7_31 dX7_takeLetters_2 rfl g1 ?_
  obtain ⟨M2, e3, hF⟩ := hl_some hF
  refine jv_mem e3 ?_
  exact jv_pc 5 rfl (s_Tape_takeLetters_1 hC hN _ _ _ hF)
set_option maxRecDepth 100000 in
set_option maxHeartbeats 4000000 in
theorem s_Tape_kindOfWord_4 {X : hm_X} {n : Nat} {S : hm_S} (hC : hm_C X RX7 cX7_kindOfWord 6 (some .int) 7 n S) {k11 : Nat → Int32 → Int32 → Int32 → Int32 → hm_M → Option (Int32 × hm_M)} (hk11 : ∀ (v0 : Nat) (v1 : Int32) (v2 : Int32) (v3 : Int32) (v4 : Int32)  (M : hm_M) (r : Int32) (M' : hm_M), k11 v0 v1 v2 v3 v4 M = some (r, M') → hm_U X 11 [(0, .ref v0), (1, .int v1), (2, .int v2), (3, .int v3), (4, .int v4)] [] M (hm_Q X (some (.int r)) M')) {v0 : Nat} {v1 : Int32} {v4 : Int32} {M : hm_M} {r : Int32} {M' : hm_M} (hF : b_Tape_kindOfWord_4 S k11 v0 v1 v4 M = some (r, M')) : hm_U X 101 [(0, .ref v0), (1, .int v1), (4, .int v4)] [] M (hm_Q X (some (.int r)) M') := by
  unfold b_Tape_kindOfWord_4 at hF
  refine jv_iinc hC 1 [(1, .int (v1 + (1 : Int32))), (0, .ref v0), (4, .int v4)] dX7_kindOfWord_101 rfl c32_1 (by decide) rfl ?_
  refine jv_iconst hC dX7_kindOfWord_104 c32_0 ?_
  refine jv_istore_n hC [(2, .int (0 : Int32)), (1, .int (v1 + (1 : Int32))), (0, .ref v0), (4, .int v4)] dX7_kindOfWord_105 (by decide) rfl ?_
  refine jv_iconst hC dX7_kindOfWord_106 c32_1 ?_
  refine jv_istore_n hC [(3, .int (1 : Int32)), (2, .int (0 : Int32)), (1, .int (v1 + (1 : Int32))), (0, .ref v0), (4, .int v4)] dX7_kindOfWord_107 (by decide) rfl ?_
  refine jv_iinc hC 4 [(4, .int (v4 + (1 : Int32))), (3, .int (1 : Int32)), (2, .int (0 : Int32)), (1, .int (v1 + (1 : Int32))), (0, .ref v0)] dX7_kindOfWord_108 rfl c32_1 (by decide) rfl ?_
  refine jv_goto hC 11 dX7_kindOfWord_111 (by decide) ?_
  refine jv_sub [4, 3, 2, 1, 0] (ls' := [(0, .ref v0), (1, .int (v1 + (1 : Int32))), (2, .int (0 : Int32)), (3, .int (1 : Int32)), (4, .int (v4 + (1 : Int32)))]) rfl ?_
  exact jv_pc 11 rfl (hk11 _ _ _ _ _ _ _ _ hF)
set_option maxRecDepth 100000 in
set_option maxHeartbeats 4000000 in
theorem s_Tape_kindOfWord_3 {X : hm_X} {n : Nat} {S : hm_S} (hC : hm_C X RX7 cX7_kindOfWord 6 (some .int) 7 n S) {k11 : Nat → Int32 → Int32 → Int32 → Int32 → hm_M → Option (Int32 × hm_M)} (hk11 : ∀ (v0 : Nat) (v1 : Int32) (v2 : Int32) (v3 : Int32) (v4 : Int32)  (M : hm_M) (r : Int32) (M' : hm_M), k11 v0 v1 v2 v3 v4 M = some (r, M') → hm_U X 11 [(0, .ref v0), (1, .int v1), (2, .int v2), (3, .int v3), (4, .int v4)] [] M (hm_Q X (some (.int r)) M')) {v0 : Nat} {v1 : Int32} {v2 : Int32} {v4 : Int32} {s0 : Int32} {M : hm_M} {r : Int32} {M' : hm_M} (hF : b_Tape_kindOfWord_3 S k11 v0 v1 v2 v4 s0 M = some (r, M')) : hm_U X 75 [(0, .ref v0), (1, .int v1), (2, .int v2), (4, .int v4)] [.int s0] M (hm_Q X (some (.int r)) M') := by
  unfold b_Tape_kindOfWord_3 at hF
  refine jv_istore_n hC [(3, .int s0), (0, .ref v0), (1, .int v1), (2, .int v2), (4, .int v4)] dX7_kindOfWord_75 (by decide) rfl ?_
  refine jv_iinc hC 3 [(2, .int (v2 + (1 : Int32))), (3, .int s0), (0, .ref v0), (1, .int v1), (4, .int v4)] dX7_kindOfWord_76 rfl c32_1 (by decide) rfl ?_
  refine jv_goto hC 108 dX7_kindOfWord_79 (by decide) ?_
  refine jv_iinc hC 4 [(4, .int (v4 + (1 : Int32))), (2, .int (v2 + (1 : Int32))), (3, .int s0), (0, .ref v0), (1, .int v1)] dX7_kindOfWord_108 rfl c32_1 (by decide) rfl ?_
  refine jv_goto hC 11 dX7_kindOfWord_111 (by decide) ?_
  refine jv_sub [3, 4, 1, 2, 0] (ls' := [(0, .ref v0), (1, .int v1), (2, .int (v2 + (1 : Int32))), (3, .int s0), (4, .int (v4 + (1 : Int32)))]) rfl ?_
  exact jv_pc 11 rfl (hk11 _ _ _ _ _ _ _ _ hF)
set_option maxRecDepth 100000 in
set_option maxHeartbeats 4000000 in
theorem s_Tape_kindOfWord_2 {X : hm_X} {n : Nat} {S : hm_S} (hC : hm_C X RX7 cX7_kindOfWord 6 (some .int) 7 n S) {k11 : Nat → Int32 → Int32 → Int32 → Int32 → hm_M → Option (Int32 × hm_M)} (hk11 : ∀ (v0 : Nat) (v1 : Int32) (v2 : Int32) (v3 : Int32) (v4 : Int32)  (M : hm_M) (r : Int32) (M' : hm_M), k11 v0 v1 v2 v3 v4 M = some (r, M') → hm_U X 11 [(0, .ref v0), (1, .int v1), (2, .int v2), (3, .int v3), (4, .int v4)] [] M (hm_Q X (some (.int r)) M')) {v0 : Nat} {v1 : Int32} {v2 : Int32} {v4 : Int32} {M : hm_M} {r : Int32} {M' : hm_M} (hF : b_Tape_kindOfWord_2 S k11 v0 v1 v2 v4 M = some (r, M')) : hm_U X 74 [(0, .ref v0), (1, .int v1), (2, .int v2), (4, .int v4)] [] M (hm_Q X (some (.int r)) M') := by
  unfold b_Tape_kindOfWord_2 at hF
  refine jv_iconst hC dX7_kindOfWord_74 c32_0 ?_
  exact jv_pc 75 rfl (s_Tape_kindOfWord_3 hC hk11 hF)
set_option maxRecDepth 100000 in
set_option maxHeartbeats 4000000 in
theorem t_Tape_kindOfWord_1 {X : hm_X} {n : Nat} {S : hm_S} (hC : hm_C X RX7 cX7_kindOfWord 6 (some .int) 7 n S) {k11 : Nat → Int32 → Int32 → Int32 → Int32 → hm_M → Option (Int32 × hm_M)} (hk11 : ∀ (v0 : Nat) (v1 : Int32) (v2 : Int32) (v3 : Int32) (v4 : Int32)  (M : hm_M) (r : Int32) (M' : hm_M), k11 v0 v1 v2 v3 v4 M = some (r, M') → hm_U X 11 [(0, .ref v0), (1, .int v1), (2, .int v2), (3, .int v3), (4, .int v4)] [] M (hm_Q X (some (.int r)) M')) {v0 : Nat} {v1 : Int32} {v2 : Int32} {v3 : Int32} {v4 : Int32} {M : hm_M} {r : Int32} {M' : hm_M} (hF : b_Tape_kindOfWord_1 S k11 v0 v1 v2 v3 v4 M = some (r, M')) : hm_U X 11 [(0, .ref v0), (1, .int v1), (2, .int v2), (3, .int v3), (4, .int v4)] [] M (hm_Q X (some (.int r)) M') := by
  unfold b_Tape_kindOfWord_1 at hF
  refine jv_iload hC 4 dX7_kindOfWord_11 rfl ?_
  refine jv_ldcs0 hC dX7_kindOfWord_13 ?_
  refine jv_strlen0 hC dX7_kindOfWord_15 (by decide) (Nat.le_of_ble_eq_true rfl) ?_
  refine jv_nf 18 [.int (106 : Int32), .int v4] rfl rfl ?_
  refine jv_icmp_ge hC 114 dX7_kindOfWord_18 (by decide) (fun h1 => ?_) (fun h1 => ?_)
  · have hF := hi_pos h1 hF
    refine jv_sipush hC dX7_kindOfWord_114 c16_150 ?_
    obtain ⟨rfl, rfl⟩ := hr_some hF
    exact jv_iret hC dX7_kindOfWord_117
  · have hF := hi_neg h1 hF
    refine jv_ldcs0 hC dX7_kindOfWord_21 ?_
    refine jv_iload hC 4 dX7_kindOfWord_23 rfl ?_
    obtain ⟨g2, hF⟩ := hg_some hF
    refine jv_strat0 hC dX7_kindOfWord_25 (by decide) (Nat.le_of_ble_eq_true rfl) g2 ?_
    refine jv_nf 28 [.int (hm_chr 0 v4)] rfl rfl ?_
    obtain ⟨x3, e4, hF⟩ := hl_some hF
    refine jv_topI e4 ?_
    refine jv_istore hC [(5, .int x3), (0, .ref v0), (1, .int v1), (2, .int v2), (3, .int v3), (4, .int v4)] dX7_kindOfWord_28 (by decide) rfl ?_
    refine jv_iload hC 0 dX7_kindOfWord_30 rfl ?_
    refine jv_bipush hC dX7_kindOfWord_32 c8_32 ?_
    refine jv_icmp_eq hC 82 dX7_kindOfWord_34 (by decide) (fun h5 => ?_) (fun h5 => ?_)
    · have hF := hi_pos h5 hF
      refine jv_iload_n hC 4 dX7_kindOfWord_82 rfl ?_
      refine jv_if_eq hC 101 dX7_kindOfWord_83 (by decide) (fun h6 => ?_) (fun h6 => ?_)
      · have hF := hi_pos h6 hF
        refine jv_sub [1, 2, 5] (ls' := [(0, .ref v0), (1, .int v1), (4, .int v4)]) rfl ?_
        exact jv_pc 101 rfl (s_Tape_kindOfWord_4 hC hk11 hF)
      · have hF := hi_neg h6 hF
        refine jv_aload_n hC 1 dX7_kindOfWord_86 rfl ?_
        obtain ⟨g7, hF⟩ := hg_some hF
        refine jv_getI hC fl_X7_22 dX7_kindOfWord_87 rfl g7 ?_
        refine jv_iload_n hC 3 dX7_kindOfWord_90 rfl ?_
        refine jv_iadd hC dX7_kindOfWord_91 ?_
        refine jv_aload_n hC 1 dX7_kindOfWord_92 rfl ?_
        refine jv_getI hC fl_X7_19 dX7_kindOfWord_93 rfl g7 ?_
        refine jv_icmp_ne hC 101 dX7_kindOfWord_96 (by decide) (fun h8 => ?_) (fun h8 => ?_)
        · have hF := hi_neg h8 hF
          refine jv_sub [1, 2, 5] (ls' := [(0, .ref v0), (1, .int v1), (4, .int v4)]) rfl ?_
          exact jv_pc 101 rfl (s_Tape_kindOfWord_4 hC hk11 hF)
        · have hF := hi_pos h8 hF
          refine jv_iload_n hC 2 dX7_kindOfWord_99 rfl ?_
          obtain ⟨rfl, rfl⟩ := hr_some hF
          exact jv_iret hC dX7_kindOfWord_100
    · have hF := hi_neg h5 hF
      refine jv_iload_n hC 4 dX7_kindOfWord_37 rfl ?_
      refine jv_if_eq hC 74 dX7_kindOfWord_38 (by decide) (fun h9 => ?_) (fun h9 => ?_)
      · have hF := hi_pos h9 hF
        refine jv_sub [1, 2, 3, 5] (ls' := [(0, .ref v0), (1, .int v1), (2, .int v2), (4, .int v4)]) rfl ?_
        exact jv_pc 74 rfl (s_Tape_kindOfWord_2 hC hk11 hF)
      · have hF := hi_neg h9 hF
        refine jv_aload_n hC 1 dX7_kindOfWord_41 rfl ?_
        obtain ⟨g10, hF⟩ := hg_some hF
        refine jv_getI hC fl_X7_22 dX7_kindOfWord_42 rfl g10 ?_
        refine jv_iload_n hC 3 dX7_kindOfWord_45 rfl ?_
        refine jv_iadd hC dX7_kindOfWord_46 ?_
        refine jv_aload_n hC 1 dX7_kindOfWord_47 rfl ?_
        refine jv_getI hC fl_X7_19 dX7_kindOfWord_48 rfl g10 ?_
        refine jv_icmp_ge hC 74 dX7_kindOfWord_51 (by decide) (fun h11 => ?_) (fun h11 => ?_)
        · have hF := hi_pos h11 hF
          refine jv_sub [1, 2, 3, 5] (ls' := [(0, .ref v0), (1, .int v1), (2, .int v2), (4, .int v4)]) rfl ?_
          exact jv_pc 74 rfl (s_Tape_kindOfWord_2 hC hk11 hF)
        · have hF := hi_neg h11 hF
          refine jv_aload_n hC 1 dX7_kindOfWord_54 rfl ?_
          obtain ⟨g12, hF⟩ := hg_some hF
          refine jv_getR hC fl_X7_9 dX7_kindOfWord_55 rfl g10 g12 ?_
          refine jv_aload_n hC 1 dX7_kindOfWord_58 rfl ?_
          refine jv_getI hC fl_X7_22 dX7_kindOfWord_59 rfl g10 ?_
          refine jv_iload_n hC 3 dX7_kindOfWord_62 rfl ?_
          refine jv_iadd hC dX7_kindOfWord_63 ?_
          obtain ⟨g13, hF⟩ := hg_some hF
          obtain ⟨n14, sn14, in14⟩ := hm_ib_ok g13
          refine jv_baload hC dX7_kindOfWord_64 sn14 in14 ?_
          refine jv_pc 65 rfl ?_
          refine jv_iload hC 0 dX7_kindOfWord_65 rfl ?_
          refine jv_icmp_ne hC 74 dX7_kindOfWord_67 (by decide) (fun h15 => ?_) (fun h15 => ?_)
          · have hF := hi_neg h15 hF
            refine jv_sub [1, 2, 3, 5] (ls' := [(0, .ref v0), (1, .int v1), (2, .int v2), (4, .int v4)]) rfl ?_
            exact jv_pc 74 rfl (s_Tape_kindOfWord_2 hC hk11 hF)
          · have hF := hi_pos h15 hF
            refine jv_iconst hC dX7_kindOfWord_70 c32_1 ?_
            refine jv_goto hC 75 dX7_kindOfWord_71 (by decide) ?_
            refine jv_sub [1, 2, 3, 5] (ls' := [(0, .ref v0), (1, .int v1), (2, .int v2), (4, .int v4)]) rfl ?_
            exact jv_pc 75 rfl (s_Tape_kindOfWord_3 hC hk11 hF)
theorem s_Tape_kindOfWord_1 {X : hm_X} {n : Nat} {S : hm_S} (hC : hm_C X RX7 cX7_kindOfWord 6 (some .int) 7 n S) : ∀ (q : Nat) (v0 : Nat) (v1 : Int32) (v2 : Int32) (v3 : Int32) (v4 : Int32) (M : hm_M) (r : Int32) (M' : hm_M), f_Tape_kindOfWord_1 S  q v0 v1 v2 v3 v4 M = some (r, M') → hm_U X 11 [(0, .ref v0), (1, .int v1), (2, .int v2), (3, .int v3), (4, .int v4)] [] M (hm_Q X (some (.int r)) M') := by
  intro q
  induction q with
  | zero => intro v0 v1 v2 v3 v4 M r M' hF; cases hF
  | succ q ih => intro v0 v1 v2 v3 v4 M r M' hF; exact t_Tape_kindOfWord_1 hC ih hF
set_option maxRecDepth 100000 in
set_option maxHeartbeats 4000000 in
theorem k_Tape_kindOfWord {n : Nat} {S : hm_S} {v0 : Nat} {M : hm_M} {r : Int32} {M' : hm_M} (hF : f_Tape_kindOfWord S v0 M = some (r, M')) : hm_KM yX7_kindOfWord cX7_kindOfWord 6 (some .int) 7 n S [.ref v0] M (some (.int r)) M' := by
  refine hm_enter mm_Tape_kindOfWord (Nat.le_of_ble_eq_true rfl) (fun X hC => ?_)
  show hm_U X 0 [(0, .ref v0)] [] M _
  unfold f_Tape_kindOfWord at hF
  refine jv_sipush hC dX7_kindOfWord_0 c16_128 ?_
  refine jv_istore_n hC [(1, .int (128 : Int32)), (0, .ref v0)] dX7_kindOfWord_3 (by decide) rfl ?_
  refine jv_iconst hC dX7_kindOfWord_4 c32_0 ?_
  refine jv_istore_n hC [(2, .int (0 : Int32)), (1, .int (128 : Int32)), (0, .ref v0)] dX7_kindOfWord_5 (by decide) rfl ?_
  refine jv_iconst hC dX7_kindOfWord_6 c32_1 ?_
  refine jv_istore_n hC [(3, .int (1 : Int32)), (2, .int (0 : Int32)), (1, .int (128 : Int32)), (0, .ref v0)] dX7_kindOfWord_7 (by decide) rfl ?_
  refine jv_iconst hC dX7_kindOfWord_8 c32_0 ?_
  refine jv_pc 9 rfl ?_
  refine jv_istore hC [(4, .int (0 : Int32)), (3, .int (1 : Int32)), (2, .int (0 : Int32)), (1, .int (128 : Int32)), (0, .ref v0)] dX7_kindOfWord_9 (by decide) rfl ?_
  refine jv_sub [4, 3, 2, 1, 0] (ls' := [(0, .ref v0), (1, .int (128 : Int32)), (2, .int (0 : Int32)), (3, .int (1 : Int32)), (4, .int (0 : Int32))]) rfl ?_
  exact jv_pc 11 rfl (s_Tape_kindOfWord_1 hC hN _ _ _ _ _ _ _ _ hF)
set_option maxRecDepth 100000 in
set_option maxHeartbeats 4000000 in
theorem k_Tape_isDigit {n : Nat} {S : hm_S} {v0 : Int32} {M : hm_M} {r : Int32} {M' : hm_M} (hF : f_Tape_isDigit S v0 M = some (r, M')) : hm_KM yX7_isDigit cX7_isDigit 1 (some .boolean) 1 n S [.int v0] M (some (.int r)) M' := by
  refine hm_enter mm_Tape_isDigit (Nat.le_of_ble_eq_true rfl) (fun X hC => ?_)
  show hm_U X 0 [(0, .int v0)] [] M _
  unfold f_Tape_isDigit at hF
  refine jv_iload_n hC 0 dX7_isDigit_0 rfl ?_
  refine jv_bipush hC dX7_isDigit_1 c8_48 ?_
  refine jv_icmp_lt hC 16 dX7_isDigit_3 (by decide) (fun h1 => ?_) (fun h1 => ?_)
  · have hF := hi_pos h1 hF
    refine jv_iconst hC dX7_isDigit_16 c32_0 ?_
    obtain ⟨rfl, rfl⟩ := hr_some hF
    exact jv_zret hC (by decide) dX7_isDigit_17
  · have hF := hi_neg h1 hF
    refine jv_iload_n hC 0 dX7_isDigit_6 rfl ?_
    refine jv_bipush hC dX7_isDigit_7 c8_57 ?_
    refine jv_icmp_gt hC 16 dX7_isDigit_9 (by decide) (fun h2 => ?_) (fun h2 => ?_)
    · have hF := hi_pos h2 hF
      refine jv_iconst hC dX7_isDigit_16 c32_0 ?_
      obtain ⟨rfl, rfl⟩ := hr_some hF
      exact jv_zret hC (by decide) dX7_isDigit_17
    · have hF := hi_neg h2 hF
      refine jv_iconst hC dX7_isDigit_12 c32_1 ?_
      refine jv_goto hC 17 dX7_isDigit_13 (by decide) ?_
      obtain ⟨rfl, rfl⟩ := hr_some hF
      exact jv_zret hC (by decide) dX7_isDigit_17
set_option maxRecDepth 100000 in
set_option maxHeartbeats 4000000 in
theorem t_Tape_takeDigits_1 {X : hm_X} {n : Nat} {S : hm_S} (hC : hm_C X RX7 cX7_takeDigits 1 none 2 n S) {k5 : Nat → hm_M → Option hm_M} (hk5 : ∀ (v0 : Nat)  (M : hm_M) (M' : hm_M), k5 v0 M = some M' → hm_U X 5 [(0, .ref v0)] [] M (hm_Q X none M')) {v0 : Nat} {M : hm_M} {M' : hm_M} (hF : b_Tape_takeDigits_1 S k5 v0 M = some M') : hm_U X 5 [(0, .ref v0)] [] M (hm_Q X none M') := by
  unfold b_Tape_takeDigits_1 at hF
  refine jv_aload_n hC 0 dX7_takeDigits_5 rfl ?_
  obtain ⟨g1, hF⟩ := hg_some hF
  refine jv_getI hC fl_X7_19 dX7_takeDigits_6 rfl g1 ?_
  refine jv_aload_n hC 0 dX7_takeDigits_9 rfl ?_
  refine jv_getI hC fl_X7_15 dX7_takeDigits_10 rfl g1 ?_
  refine jv_icmp_ge hC 68 dX7_takeDigits_13 (by decide) (fun h2 => ?_) (fun h2 => ?_)
  · have hF := hi_pos h2 hF
    obtain rfl := hr_somev hF
    exact jv_vret hC dX7_takeDigits_68
  · have hF := hi_neg h2 hF
    refine jv_aload_n hC 0 dX7_takeDigits_16 rfl ?_
    obtain ⟨g3, hF⟩ := hg_some hF
    refine jv_getR hC fl_X7_9 dX7_takeDigits_17 rfl g1 g3 ?_
    refine jv_aload_n hC 0 dX7_takeDigits_20 rfl ?_
    refine jv_getI hC fl_X7_19 dX7_takeDigits_21 rfl g1 ?_
    obtain ⟨g4, hF⟩ := hg_some hF
    obtain ⟨n5, sn5, in5⟩ := hm_ib_ok g4
    refine jv_baload hC dX7_takeDigits_24 sn5 in5 ?_
    obtain ⟨r8, M7, c6, hF⟩ := hb_some hF
    refine jv_callS hC (st := []) [.int (M.1 (M.2.2 v0 0) (M.1 v0 2).toNatClampNeg)] (k_Tape_isDigit c6) mm_Tape_isDigit ms_Tape_isDigit ml_X7_55 dX7_takeDigits_25 (Nat.le_of_ble_eq_true rfl) rfl rfl (Nat.le_of_ble_eq_true rfl) ?_
    refine jv_nf 28 [.int r8] rfl rfl ?_
    refine jv_if_eq hC 68 dX7_takeDigits_28 (by decide) (fun h9 => ?_) (fun h9 => ?_)
    · have hF := hi_pos h9 hF
      obtain rfl := hr_somev hF
      exact jv_vret hC dX7_takeDigits_68
    · have hF := hi_neg h9 hF
      refine jv_aload_n hC 0 dX7_takeDigits_31 rfl ?_
      refine jv_aload_n hC 0 dX7_takeDigits_32 rfl ?_
      refine jv_getI hC fl_X7_28 dX7_takeDigits_33 rfl g1 ?_
      refine jv_bipush hC dX7_takeDigits_36 c8_10 ?_
      refine jv_imul hC dX7_takeDigits_38 ?_
      refine jv_aload_n hC 0 dX7_takeDigits_39 rfl ?_
      obtain ⟨g10, hF⟩ := hg_some hF
      refine jv_getR hC fl_X7_9 dX7_takeDigits_40 rfl g1 g10 ?_
      refine jv_pc 43 rfl ?_
      refine jv_aload_n hC 0 dX7_takeDigits_43 rfl ?_
      refine jv_getI hC fl_X7_19 dX7_takeDigits_44 rfl g1 ?_
      obtain ⟨g11, hF⟩ := hg_some hF
      obtain ⟨n12, sn12, in12⟩ := hm_ib_ok g11
      refine jv_baload hC dX7_takeDigits_47 sn12 in12 ?_
      refine jv_bipush hC dX7_takeDigits_48 c8_48 ?_
      refine jv_isub hC dX7_takeDigits_50 ?_
      refine jv_iadd hC dX7_takeDigits_51 ?_
      refine jv_putI hC fl_X7_28 dX7_takeDigits_52 rfl rfl rfl g1 ?_
      obtain ⟨M13, e14, hF⟩ := hl_some hF
      refine jv_mem e14 ?_
      refine jv_aload_n hC 0 dX7_takeDigits_55 rfl ?_
      refine jv_pc 56 rfl ?_
      refine jv_dup hC dX7_takeDigits_56 rfl ?_
      refine jv_getI hC fl_X7_19 dX7_takeDigits_57 rfl g1 ?_
      refine jv_iconst hC dX7_takeDigits_60 c32_1 ?_
      refine jv_iadd hC dX7_takeDigits_61 ?_
      refine jv_putI hC fl_X7_19 dX7_takeDigits_62 rfl rfl rfl g1 ?_
      obtain ⟨M15, e16, hF⟩ := hl_some hF
      refine jv_mem e16 ?_
      refine jv_goto hC 5 dX7_takeDigits_65 (by decide) ?_
      exact jv_pc 5 rfl (hk5 _ _ _ hF)
theorem s_Tape_takeDigits_1 {X : hm_X} {n : Nat} {S : hm_S} (hC : hm_C X RX7 cX7_takeDigits 1 none 2 n S) : ∀ (q : Nat) (v0 : Nat) (M : hm_M) (M' : hm_M), f_Tape_takeDigits_1 S  q v0 M = some M' → hm_U X 5 [(0, .ref v0)] [] M (hm_Q X none M') := by
  intro q
  induction q with
  | zero => intro v0 M M' hF; cases hF
  | succ q ih => intro v0 M M' hF; exact t_Tape_takeDigits_1 hC ih hF
set_option maxRecDepth 100000 in
set_option maxHeartbeats 4000000 in
theorem k_Tape_takeDigits {n : Nat} {S : hm_S} {v0 : Nat} {M : hm_M} {M' : hm_M} (hF : f_Tape_takeDigits S v0 M = some M') : hm_KM yX7_takeDigits cX7_takeDigits 1 none 2 n S [.ref v0] M none M' := by
  refine hm_enter mm_Tape_takeDigits (Nat.le_of_ble_eq_true rfl) (fun X hC => ?_)
  show hm_U X 0 [(0, .ref v0)] [] M _
  unfold f_Tape_takeDigits at hF
  refine jv_aload_n hC 0 dX7_takeDigits_0 rfl ?_
  refine jv_iconst hC dX7_takeDigits_1 c32_0 ?_
  obtain ⟨g1, hF⟩ := hg_some hF
  refine jv_putI hC fl_X7_28 dX7_takeDigits_2 rfl rfl rfl g1 ?_
  obtain ⟨M2, e3, hF⟩ := hl_some hF
  refine jv_mem e3 ?_
  exact jv_pc 5 rfl (s_Tape_takeDigits_1 hC hN _ _ _ hF)
set_option maxRecDepth 100000 in
set_option maxHeartbeats 4000000 in
theorem s_Tape_next_5 {X : hm_X} {n : Nat} {S : hm_S} (hC : hm_C X RX7 cX7_next 1 none 8 n S) {v0 : Nat} {s0 : Int32} {s1 : Nat} {M : hm_M} {M' : hm_M} (hF : b_Tape_next_5 S v0 s0 s1 M = some M') : hm_U X 190 [(0, .ref v0)] [.int s0, .ref s1] M (hm_Q X none M') := by
  unfold b_Tape_next_5 at hF
  obtain ⟨g1, hF⟩ := hg_some hF
  refine jv_putI hC fl_X7_25 dX7_next_190 rfl rfl rfl g1 ?_
  obtain ⟨M2, e3, hF⟩ := hl_some hF
  refine jv_mem e3 ?_
  refine jv_aload_n hC 0 dX7_next_193 rfl ?_
  refine jv_dup hC dX7_next_194 rfl ?_
  obtain ⟨g4, hF⟩ := hg_some hF
  refine jv_getI hC fl_X7_19 dX7_next_195 rfl g4 ?_
  refine jv_iconst hC dX7_next_198 c32_1 ?_
  refine jv_iadd hC dX7_next_199 ?_
  refine jv_putI hC fl_X7_19 dX7_next_200 rfl rfl rfl g4 ?_
  obtain ⟨M5, e6, hF⟩ := hl_some hF
  refine jv_mem e6 ?_
  refine jv_pc 203 rfl ?_
  obtain rfl := hr_somev hF
  exact jv_vret hC dX7_next_203
set_option maxRecDepth 100000 in
set_option maxHeartbeats 4000000 in
theorem s_Tape_next_4 {X : hm_X} {n : Nat} {S : hm_S} (hC : hm_C X RX7 cX7_next 1 none 8 n S) {s0 : Int32} {s1 : Nat} {M : hm_M} {M' : hm_M} (hF : b_Tape_next_4 S s0 s1 M = some M') : hm_U X 152 [] [.int s0, .ref s1] M (hm_Q X none M') := by
  unfold b_Tape_next_4 at hF
  obtain ⟨g1, hF⟩ := hg_some hF
  refine jv_putI hC fl_X7_25 dX7_next_152 rfl rfl rfl g1 ?_
  obtain ⟨M2, e3, hF⟩ := hl_some hF
  refine jv_mem e3 ?_
  refine jv_goto hC 203 dX7_next_155 (by decide) ?_
  obtain rfl := hr_somev hF
  exact jv_vret hC dX7_next_203
set_option maxRecDepth 100000 in
set_option maxHeartbeats 4000000 in
theorem s_Tape_next_3 {X : hm_X} {n : Nat} {S : hm_S} (hC : hm_C X RX7 cX7_next 1 none 8 n S) {s0 : Int32} {s1 : Nat} {M : hm_M} {M' : hm_M} (hF : b_Tape_next_3 S s0 s1 M = some M') : hm_U X 108 [] [.int s0, .ref s1] M (hm_Q X none M') := by
  unfold b_Tape_next_3 at hF
  obtain ⟨g1, hF⟩ := hg_some hF
  refine jv_putI hC fl_X7_25 dX7_next_108 rfl rfl rfl g1 ?_
  obtain ⟨M2, e3, hF⟩ := hl_some hF
  refine jv_mem e3 ?_
  refine jv_goto hC 203 dX7_next_111 (by decide) ?_
  obtain rfl := hr_somev hF
  exact jv_vret hC dX7_next_203
set_option maxRecDepth 100000 in
set_option maxHeartbeats 4000000 in
theorem s_Tape_next_2 {X : hm_X} {n : Nat} {S : hm_S} (hC : hm_C X RX7 cX7_next 1 none 8 n S) {v0 : Nat} {M : hm_M} {M' : hm_M} (hF : b_Tape_next_2 S v0 M = some M') : hm_U X 39 [(0, .ref v0)] [] M (hm_Q X none M') := by
  unfold b_Tape_next_2 at hF
  refine jv_aload_n hC 0 dX7_next_39 rfl ?_
  refine jv_aload_n hC 0 dX7_next_40 rfl ?_
  obtain ⟨g1, hF⟩ := hg_some hF
  refine jv_getI hC fl_X7_19 dX7_next_41 rfl g1 ?_
  refine jv_putI hC fl_X7_22 dX7_next_44 rfl rfl rfl g1 ?_
  obtain ⟨M2, e3, hF⟩ := hl_some hF
  refine jv_mem e3 ?_
  refine jv_aload_n hC 0 dX7_next_47 rfl ?_
  refine jv_getI hC fl_X7_19 dX7_next_48 rfl g1 ?_
  refine jv_aload_n hC 0 dX7_next_51 rfl ?_
  refine jv_pc 52 rfl ?_
  refine jv_getI hC fl_X7_15 dX7_next_52 rfl g1 ?_
  refine jv_icmp_lt hC 66 dX7_next_55 (by decide) (fun h4 => ?_) (fun h4 => ?_)
  · have hF := hi_pos h4 hF
    refine jv_aload_n hC 0 dX7_next_66 rfl ?_
    obtain ⟨g5, hF⟩ := hg_some hF
    refine jv_getR hC fl_X7_9 dX7_next_67 rfl g1 g5 ?_
    refine jv_aload_n hC 0 dX7_next_70 rfl ?_
    refine jv_getI hC fl_X7_19 dX7_next_71 rfl g1 ?_
    obtain ⟨g6, hF⟩ := hg_some hF
    obtain ⟨n7, sn7, in7⟩ := hm_ib_ok g6
    refine jv_baload hC dX7_next_74 sn7 in7 ?_
    obtain ⟨r10, M9, c8, hF⟩ := hb_some hF
    refine jv_callS hC (st := []) [.int (M2.1 (M2.2.2 v0 0) (M2.1 v0 2).toNatClampNeg)] (k_Tape_isLetter c8) mm_Tape_isLetter ms_Tape_isLetter ml_X7_45 dX7_next_75 (Nat.le_of_ble_eq_true rfl) rfl rfl (Nat.le_of_ble_eq_true rfl) ?_
    refine jv_nf 78 [.int r10] rfl rfl ?_
    refine jv_if_eq hC 114 dX7_next_78 (by decide) (fun h11 => ?_) (fun h11 => ?_)
    · have hF := hi_pos h11 hF
      refine jv_aload_n hC 0 dX7_next_114 rfl ?_
      obtain ⟨g12, hF⟩ := hg_some hF
      refine jv_getR hC fl_X7_9 dX7_next_115 rfl g1 g12 ?_
      refine jv_aload_n hC 0 dX7_next_118 rfl ?_
      refine jv_getI hC fl_X7_19 dX7_next_119 rfl g1 ?_
      obtain ⟨g13, hF⟩ := hg_some hF
      obtain ⟨n14, sn14, in14⟩ := hm_ib_ok g13
      refine jv_baload hC dX7_next_122 sn14 in14 ?_
      obtain ⟨r17, M16, c15, hF⟩ := hb_some hF
      refine jv_callS hC (st := []) [.int (M9.1 (M9.2.2 v0 0) (M9.1 v0 2).toNatClampNeg)] (k_Tape_isDigit c15) mm_Tape_isDigit ms_Tape_isDigit ml_X7_55 dX7_next_123 (Nat.le_of_ble_eq_true rfl) rfl rfl (Nat.le_of_ble_eq_true rfl) ?_
      refine jv_nf 126 [.int r17] rfl rfl ?_
      refine jv_if_eq hC 158 dX7_next_126 (by decide) (fun h18 => ?_) (fun h18 => ?_)
      · have hF := hi_pos h18 hF
        refine jv_aload_n hC 0 dX7_next_158 rfl ?_
        refine jv_ldcs1 hC dX7_next_159 ?_
        refine jv_aload_n hC 0 dX7_next_161 rfl ?_
        obtain ⟨g19, hF⟩ := hg_some hF
        refine jv_getR hC fl_X7_9 dX7_next_162 rfl g1 g19 ?_
        refine jv_aload_n hC 0 dX7_next_165 rfl ?_
        refine jv_getI hC fl_X7_19 dX7_next_166 rfl g1 ?_
        obtain ⟨g20, hF⟩ := hg_some hF
        obtain ⟨n21, sn21, in21⟩ := hm_ib_ok g20
        refine jv_baload hC dX7_next_169 sn21 in21 ?_
        refine jv_pc 170 rfl ?_
        refine jv_i2c hC dX7_next_170 ?_
        refine jv_strix1 hC dX7_next_171 (by decide) (Nat.le_of_ble_eq_true rfl) ?_
        refine jv_nf 174 [.int (hm_ix 1 ((M16.1 (M16.2.2 v0 0) (M16.1 v0 2).toNatClampNeg).toUInt32 % 65536).toInt32), .ref v0] rfl rfl ?_
        refine jv_if_lt hC 189 dX7_next_174 (by decide) (fun h22 => ?_) (fun h22 => ?_)
        · have hF := hi_pos h22 hF
          refine jv_iconst hC dX7_next_189 c32_0 ?_
          exact jv_pc 190 rfl (s_Tape_next_5 hC hF)
        · have hF := hi_neg h22 hF
          refine jv_aload_n hC 0 dX7_next_177 rfl ?_
          refine jv_getR hC fl_X7_9 dX7_next_178 rfl g1 g19 ?_
          refine jv_aload_n hC 0 dX7_next_181 rfl ?_
          refine jv_getI hC fl_X7_19 dX7_next_182 rfl g1 ?_
          refine jv_baload hC dX7_next_185 sn21 in21 ?_
          refine jv_goto hC 190 dX7_next_186 (by decide) ?_
          exact jv_pc 190 rfl (s_Tape_next_5 hC hF)
      · have hF := hi_neg h18 hF
        refine jv_aload_n hC 0 dX7_next_129 rfl ?_
        obtain ⟨M24, c23, hF⟩ := hv_some hF
        refine jv_callV hC (st := []) [] (k_Tape_takeDigits c23) mm_Tape_takeDigits mi_Tape_takeDigits ml_X7_58 dX7_next_130 g1 rfl (Nat.le_of_ble_eq_true rfl) rfl rfl (Nat.le_of_ble_eq_true rfl) ?_
        refine jv_nf 133 [] rfl rfl ?_
        refine jv_aload_n hC 0 dX7_next_133 rfl ?_
        refine jv_aload_n hC 0 dX7_next_134 rfl ?_
        refine jv_getI hC fl_X7_19 dX7_next_135 rfl g1 ?_
        refine jv_aload_n hC 0 dX7_next_138 rfl ?_
        refine jv_getI hC fl_X7_22 dX7_next_139 rfl g1 ?_
        refine jv_isub hC dX7_next_142 ?_
        refine jv_iconst hC dX7_next_143 c32_4 ?_
        refine jv_pc 144 rfl ?_
        refine jv_icmp_le hC 151 dX7_next_144 (by decide) (fun h25 => ?_) (fun h25 => ?_)
        · have hF := hi_pos h25 hF
          refine jv_iconst hC dX7_next_151 c32_2 ?_
          refine jv_sub [] (ls' := []) rfl ?_
          exact jv_pc 152 rfl (s_Tape_next_4 hC hF)
        · have hF := hi_neg h25 hF
          refine jv_iconst hC dX7_next_147 c32_0 ?_
          refine jv_goto hC 152 dX7_next_148 (by decide) ?_
          refine jv_sub [] (ls' := []) rfl ?_
          exact jv_pc 152 rfl (s_Tape_next_4 hC hF)
    · have hF := hi_neg h11 hF
      refine jv_aload_n hC 0 dX7_next_81 rfl ?_
      obtain ⟨M27, c26, hF⟩ := hv_some hF
      refine jv_callV hC (st := []) [] (k_Tape_takeLetters c26) mm_Tape_takeLetters mi_Tape_takeLetters ml_X7_48 dX7_next_82 g1 rfl (Nat.le_of_ble_eq_true rfl) rfl rfl (Nat.le_of_ble_eq_true rfl) ?_
      refine jv_nf 85 [] rfl rfl ?_
      refine jv_aload_n hC 0 dX7_next_85 rfl ?_
      refine jv_aload_n hC 0 dX7_next_86 rfl ?_
      refine jv_getI hC fl_X7_19 dX7_next_87 rfl g1 ?_
      refine jv_aload_n hC 0 dX7_next_90 rfl ?_
      refine jv_getI hC fl_X7_22 dX7_next_91 rfl g1 ?_
      refine jv_isub hC dX7_next_94 ?_
      refine jv_bipush hC dX7_next_95 c8_8 ?_
      refine jv_pc 97 rfl ?_
      refine jv_icmp_le hC 104 dX7_next_97 (by decide) (fun h28 => ?_) (fun h28 => ?_)
      · have hF := hi_pos h28 hF
        refine jv_aload_n hC 0 dX7_next_104 rfl ?_
        obtain ⟨r31, M30, c29, hF⟩ := hb_some hF
        refine jv_callV hC (st := [.ref v0]) [] (k_Tape_kindOfWord c29) mm_Tape_kindOfWord mi_Tape_kindOfWord ml_X7_51 dX7_next_105 g1 rfl (Nat.le_of_ble_eq_true rfl) rfl rfl (Nat.le_of_ble_eq_true rfl) ?_
        refine jv_nf 108 [.int r31, .ref v0] rfl rfl ?_
        refine jv_sub [] (ls' := []) rfl ?_
        exact jv_pc 108 rfl (s_Tape_next_3 hC hF)
      · have hF := hi_neg h28 hF
        refine jv_iconst hC dX7_next_100 c32_0 ?_
        refine jv_goto hC 108 dX7_next_101 (by decide) ?_
        refine jv_sub [] (ls' := []) rfl ?_
        exact jv_pc 108 rfl (s_Tape_next_3 hC hF)
  · have hF := hi_neg h4 hF
    refine jv_aload_n hC 0 dX7_next_58 rfl ?_
    refine jv_iconst hC dX7_next_59 c32_1 ?_
    refine jv_putI hC fl_X7_25 dX7_next_60 rfl rfl rfl g1 ?_
    obtain ⟨M32, e33, hF⟩ := hl_some hF
    refine jv_mem e33 ?_
    refine jv_goto hC 203 dX7_next_63 (by decide) ?_
    obtain rfl := hr_somev hF
    exact jv_vret hC dX7_next_203
set_option maxRecDepth 100000 in
set_option maxHeartbeats 4000000 in
theorem t_Tape_next_1 {X : hm_X} {n : Nat} {S : hm_S} (hC : hm_C X RX7 cX7_next 1 none 8 n S) {k0 : Nat → hm_M → Option hm_M} (hk0 : ∀ (v0 : Nat)  (M : hm_M) (M' : hm_M), k0 v0 M = some M' → hm_U X 0 [(0, .ref v0)] [] M (hm_Q X none M')) {v0 : Nat} {M : hm_M} {M' : hm_M} (hF : b_Tape_next_1 S k0 v0 M = some M') : hm_U X 0 [(0, .ref v0)] [] M (hm_Q X none M') := by
  unfold b_Tape_next_1 at hF
  refine jv_aload_n hC 0 dX7_next_0 rfl ?_
  obtain ⟨g1, hF⟩ := hg_some hF
  refine jv_getI hC fl_X7_19 dX7_next_1 rfl g1 ?_
  refine jv_aload_n hC 0 dX7_next_4 rfl ?_
  refine jv_getI hC fl_X7_15 dX7_next_5 rfl g1 ?_
  refine jv_icmp_ge hC 39 dX7_next_8 (by decide) (fun h2 => ?_) (fun h2 => ?_)
  · have hF := hi_pos h2 hF
    exact jv_pc 39 rfl (s_Tape_next_2 hC hF)
  · have hF := hi_neg h2 hF
    refine jv_aload_n hC 0 dX7_next_11 rfl ?_
    obtain ⟨g3, hF⟩ := hg_some hF
    refine jv_getR hC fl_X7_9 dX7_next_12 rfl g1 g3 ?_
    refine jv_aload_n hC 0 dX7_next_15 rfl ?_
    refine jv_getI hC fl_X7_19 dX7_next_16 rfl g1 ?_
    obtain ⟨g4, hF⟩ := hg_some hF
    obtain ⟨n5, sn5, in5⟩ := hm_ib_ok g4
    refine jv_baload hC dX7_next_19 sn5 in5 ?_
    obtain ⟨r8, M7, c6, hF⟩ := hb_some hF
    refine jv_callS hC (st := []) [.int (M.1 (M.2.2 v0 0) (M.1 v0 2).toNatClampNeg)] (k_Tape_isBlank c6) mm_Tape_isBlank ms_Tape_isBlank ml_X7_42 dX7_next_20 (Nat.le_of_ble_eq_true rfl) rfl rfl (Nat.le_of_ble_eq_true rfl) ?_
    refine jv_nf 23 [.int r8] rfl rfl ?_
    refine jv_if_eq hC 39 dX7_next_23 (by decide) (fun h9 => ?_) (fun h9 => ?_)
    · have hF := hi_pos h9 hF
      exact jv_pc 39 rfl (s_Tape_next_2 hC hF)
    · have hF := hi_neg h9 hF
      refine jv_aload_n hC 0 dX7_next_26 rfl ?_
      refine jv_dup hC dX7_next_27 rfl ?_
      refine jv_getI hC fl_X7_19 dX7_next_28 rfl g1 ?_
      refine jv_iconst hC dX7_next_31 c32_1 ?_
      refine jv_iadd hC dX7_next_32 ?_
      refine jv_putI hC fl_X7_19 dX7_next_33 rfl rfl rfl g1 ?_
      obtain ⟨M10, e11, hF⟩ := hl_some hF
      refine jv_mem e11 ?_
      refine jv_goto hC 0 dX7_next_36 (by decide) ?_
      exact jv_pc 0 rfl (hk0 _ _ _ hF)
theorem s_Tape_next_1 {X : hm_X} {n : Nat} {S : hm_S} (hC : hm_C X RX7 cX7_next 1 none 8 n S) : ∀ (q : Nat) (v0 : Nat) (M : hm_M) (M' : hm_M), f_Tape_next_1 S  q v0 M = some M' → hm_U X 0 [(0, .ref v0)] [] M (hm_Q X none M') := by
  intro q
  induction q with
  | zero => intro v0 M M' hF; cases hF
  | succ q ih => intro v0 M M' hF; exact t_Tape_next_1 hC ih hF
set_option maxRecDepth 100000 in
set_option maxHeartbeats 4000000 in
theorem k_Tape_next {n : Nat} {S : hm_S} {v0 : Nat} {M : hm_M} {M' : hm_M} (hF : f_Tape_next S v0 M = some M') : hm_KM yX7_next cX7_next 1 none 8 n S [.ref v0] M none M' := by
  refine hm_enter mm_Tape_next (Nat.le_of_ble_eq_true rfl) (fun X hC => ?_)
  show hm_U X 0 [(0, .ref v0)] [] M _
  unfold f_Tape_next at hF
  exact jv_pc 0 rfl (s_Tape_next_1 hC hN _ _ _ hF)
set_option maxRecDepth 100000 in
set_option maxHeartbeats 4000000 in
theorem k_Tape_rewind {n : Nat} {S : hm_S} {v0 : Nat} {M : hm_M} {M' : hm_M} (hF : f_Tape_rewind S v0 M = some M') : hm_KM yX7_rewind cX7_rewind 1 none 9 n S [.ref v0] M none M' := by
  refine hm_enter mm_Tape_rewind (Nat.le_of_ble_eq_true rfl) (fun X hC => ?_)
  show hm_U X 0 [(0, .ref v0)] [] M _
  unfold f_Tape_rewind at hF
  refine jv_aload_n hC 0 dX7_rewind_0 rfl ?_
  refine jv_iconst hC dX7_rewind_1 c32_0 ?_
  obtain ⟨g1, hF⟩ := hg_some hF
  refine jv_putI hC fl_X7_19 dX7_rewind_2 rfl rfl rfl g1 ?_
  obtain ⟨M2, e3, hF⟩ := hl_some hF
  refine jv_mem e3 ?_
  refine jv_aload_n hC 0 dX7_rewind_5 rfl ?_
  obtain ⟨M5, c4, hF⟩ := hv_some hF
  refine jv_callV hC (st := []) [] (k_Tape_next c4) mm_Tape_next mi_Tape_next ml_X7_39 dX7_rewind_6 g1 rfl (Nat.le_of_ble_eq_true rfl) rfl rfl (Nat.le_of_ble_eq_true rfl) ?_
  refine jv_nf 9 [] rfl rfl ?_
  obtain rfl := hr_somev hF
  exact jv_vret hC dX7_rewind_9
