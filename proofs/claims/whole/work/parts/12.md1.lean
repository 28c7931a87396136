/-! by program: the machine runs them -/
set_option maxRecDepth 100000 in
set_option maxHeartbeats 4000000 in
theorem k_Md_both {n : Nat} {S : hm_S} {v0 : Int32} {v1 : Int32} {v2 : Int32} {M : hm_M} {r : Int32} {M' : hm_M} (hF : f_Md_both S v0 v1 v2 M = some (r, M')) : hm_KM yX12_both cX12_both 3 (some .int) 1 n S [.int v0, .int v1, .int v2] M (some (.int r)) M' := by
  refine hm_enter mm_Md_both (Nat.le_of_ble_eq_true rfl) (fun X hC => ?_)
  show hm_U X 0 [(0, .int v0), (1, .int v1), (2, .int v2)] [] M _
  unfold f_Md_both at hF
  refine jv_iload_n hC 0 dX12_both_0 rfl ?_
  by_cases h1 : v0 = (4 : Int32)
  · have hF := hi_pos h1 hF
    refine jv_tableIn hC 40 dX12_both_1 (by rw [h1]; decide) (by rw [h1]; decide) (by rw [h1]; rfl) (by decide) ?_
    refine jv_iload_n hC 1 dX12_both_40 rfl ?_
    refine jv_iload_n hC 2 dX12_both_41 rfl ?_
    refine jv_iadd hC dX12_both_42 ?_
    obtain ⟨rfl, rfl⟩ := hr_some hF
    exact jv_iret hC dX12_both_43
  have hF := hi_neg h1 hF
  by_cases h2 : v0 = (5 : Int32)
  · have hF := hi_pos h2 hF
    refine jv_tableIn hC 44 dX12_both_1 (by rw [h2]; decide) (by rw [h2]; decide) (by rw [h2]; rfl) (by decide) ?_
    refine jv_iload_n hC 1 dX12_both_44 rfl ?_
    refine jv_iload_n hC 2 dX12_both_45 rfl ?_
    refine jv_isub hC dX12_both_46 ?_
    obtain ⟨rfl, rfl⟩ := hr_some hF
    exact jv_iret hC dX12_both_47
  have hF := hi_neg h2 hF
  by_cases h3 : v0 = (6 : Int32)
  · have hF := hi_pos h3 hF
    refine jv_tableIn hC 48 dX12_both_1 (by rw [h3]; decide) (by rw [h3]; decide) (by rw [h3]; rfl) (by decide) ?_
    refine jv_iload_n hC 1 dX12_both_48 rfl ?_
    refine jv_iload_n hC 2 dX12_both_49 rfl ?_
    refine jv_imul hC dX12_both_50 ?_
    obtain ⟨rfl, rfl⟩ := hr_some hF
    exact jv_iret hC dX12_both_51
  have hF := hi_neg h3 hF
  by_cases h4 : v0 = (7 : Int32)
  · have hF := hi_pos h4 hF
    refine jv_tableIn hC 52 dX12_both_1 (by rw [h4]; decide) (by rw [h4]; decide) (by rw [h4]; rfl) (by decide) ?_
    refine jv_iload_n hC 1 dX12_both_52 rfl ?_
    refine jv_iload_n hC 2 dX12_both_53 rfl ?_
    refine jv_icmp_ge hC 61 dX12_both_54 (by decide) (fun h5 => ?_) (fun h5 => ?_)
    · have hF := hi_pos h5 hF
      refine jv_iconst hC dX12_both_61 c32_0 ?_
      obtain ⟨rfl, rfl⟩ := hr_some hF
      exact jv_iret hC dX12_both_62
    · have hF := hi_neg h5 hF
      refine jv_iconst hC dX12_both_57 c32_1 ?_
      refine jv_goto hC 62 dX12_both_58 (by decide) ?_
      obtain ⟨rfl, rfl⟩ := hr_some hF
      exact jv_iret hC dX12_both_62
  have hF := hi_neg h4 hF
  by_cases h6 : v0 = (8 : Int32)
  · have hF := hi_pos h6 hF
    refine jv_tableIn hC 63 dX12_both_1 (by rw [h6]; decide) (by rw [h6]; decide) (by rw [h6]; rfl) (by decide) ?_
    refine jv_iload_n hC 1 dX12_both_63 rfl ?_
    refine jv_iload_n hC 2 dX12_both_64 rfl ?_
    refine jv_icmp_ne hC 72 dX12_both_65 (by decide) (fun h7 => ?_) (fun h7 => ?_)
    · have hF := hi_neg h7 hF
      refine jv_iconst hC dX12_both_72 c32_0 ?_
      obtain ⟨rfl, rfl⟩ := hr_some hF
      exact jv_iret hC dX12_both_73
    · have hF := hi_pos h7 hF
      refine jv_iconst hC dX12_both_68 c32_1 ?_
      refine jv_goto hC 73 dX12_both_69 (by decide) ?_
      obtain ⟨rfl, rfl⟩ := hr_some hF
      exact jv_iret hC dX12_both_73
  have hF := hi_neg h6 hF
  by_cases h8 : v0 = (9 : Int32)
  · have hF := hi_pos h8 hF
    refine jv_tableIn hC 74 dX12_both_1 (by rw [h8]; decide) (by rw [h8]; decide) (by rw [h8]; rfl) (by decide) ?_
    refine jv_iload_n hC 1 dX12_both_74 rfl ?_
    refine jv_if_eq hC 86 dX12_both_75 (by decide) (fun h9 => ?_) (fun h9 => ?_)
    · have hF := hi_pos h9 hF
      refine jv_iconst hC dX12_both_86 c32_0 ?_
      obtain ⟨rfl, rfl⟩ := hr_some hF
      exact jv_iret hC dX12_both_87
    · have hF := hi_neg h9 hF
      refine jv_iload_n hC 2 dX12_both_78 rfl ?_
      refine jv_if_eq hC 86 dX12_both_79 (by decide) (fun h10 => ?_) (fun h10 => ?_)
      · have hF := hi_pos h10 hF
        refine jv_iconst hC dX12_both_86 c32_0 ?_
        obtain ⟨rfl, rfl⟩ := hr_some hF
        exact jv_iret hC dX12_both_87
      · have hF := hi_neg h10 hF
        refine jv_iconst hC dX12_both_82 c32_1 ?_
        refine jv_goto hC 87 dX12_both_83 (by decide) ?_
        obtain ⟨rfl, rfl⟩ := hr_some hF
        exact jv_iret hC dX12_both_87
  have hF := hi_neg h8 hF
  refine jv_tableOut hC 88 dX12_both_1 (by have := hm_out (c := 4) (by decide) h1; have := hm_out (c := 5) (by decide) h2; have := hm_out (c := 6) (by decide) h3; have := hm_out (c := 7) (by decide) h4; have := hm_out (c := 8) (by decide) h6; have := hm_out (c := 9) (by decide) h8; omega) (by decide) ?_
  refine jv_iload_n hC 1 dX12_both_88 rfl ?_
  refine jv_if_ne hC 96 dX12_both_89 (by decide) (fun h11 => ?_) (fun h11 => ?_)
  · have hF := hi_neg h11 hF
    refine jv_iconst hC dX12_both_96 c32_1 ?_
    refine jv_goto hC 101 dX12_both_97 (by decide) ?_
    obtain ⟨rfl, rfl⟩ := hr_some hF
    exact jv_iret hC dX12_both_101
  · have hF := hi_pos h11 hF
    refine jv_iload_n hC 2 dX12_both_92 rfl ?_
    refine jv_if_eq hC 100 dX12_both_93 (by decide) (fun h12 => ?_) (fun h12 => ?_)
    · have hF := hi_pos h12 hF
      refine jv_iconst hC dX12_both_100 c32_0 ?_
      obtain ⟨rfl, rfl⟩ := hr_some hF
      exact jv_iret hC dX12_both_101
    · have hF := hi_neg h12 hF
      refine jv_iconst hC dX12_both_96 c32_1 ?_
      refine jv_goto hC 101 dX12_both_97 (by decide) ?_
      obtain ⟨rfl, rfl⟩ := hr_some hF
      exact jv_iret hC dX12_both_101
set_option maxRecDepth 100000 in
set_option maxHeartbeats 4000000 in
theorem s_Md_worthAt_4 {X : hm_X} {n : Nat} {S : hm_S} (hC : hm_C X RX12 cX12_worthAt 5 (some .int) 2 n S) {k4 : Nat → Int32 → Int32 → hm_M → Option (Int32 × hm_M)} (hk4 : ∀ (v0 : Nat) (v2 : Int32) (v3 : Int32)  (M : hm_M) (r : Int32) (M' : hm_M), k4 v0 v2 v3 M = some (r, M') → hm_U X 4 [(0, .ref v0), (2, .int v2), (3, .int v3)] [] M (hm_Q X (some (.int r)) M')) {v0 : Nat} {v2 : Int32} {v3 : Int32} {s0 : Int32} {s1 : Int32} {s2 : Nat} {M : hm_M} {r : Int32} {M' : hm_M} (hF : b_Md_worthAt_4 S k4 v0 v2 v3 s0 s1 s2 M = some (r, M')) : hm_U X 100 [(0, .ref v0), (2, .int v2), (3, .int v3)] [.int s0, .int s1, .ref s2] M (hm_Q X (some (.int r)) M') := by
  unfold b_Md_worthAt_4 at hF
  obtain ⟨g1, hF⟩ := hg_some hF
  obtain ⟨n2, sn2, in2⟩ := hm_ib_ok g1
  refine jv_iastore hC dX12_worthAt_100 sn2 in2 ?_
  obtain ⟨M3, e4, hF⟩ := hl_some hF
  refine jv_mem e4 ?_
  refine jv_goto hC 134 dX12_worthAt_101 (by decide) ?_
  refine jv_iinc hC 2 [(3, .int (v3 + (1 : Int32))), (0, .ref v0), (2, .int v2)] dX12_worthAt_134 rfl c32_1 (by decide) rfl ?_
  refine jv_goto hC 4 dX12_worthAt_137 (by decide) ?_
  refine jv_sub [1, 2, 0] (ls' := [(0, .ref v0), (2, .int v2), (3, .int (v3 + (1 : Int32)))]) rfl ?_
  exact jv_pc 4 rfl (hk4 _ _ _ _ _ _ hF)
set_option maxRecDepth 100000 in
set_option maxHeartbeats 4000000 in
theorem s_Md_worthAt_3 {X : hm_X} {n : Nat} {S : hm_S} (hC : hm_C X RX12 cX12_worthAt 5 (some .int) 2 n S) {k4 : Nat → Int32 → Int32 → hm_M → Option (Int32 × hm_M)} (hk4 : ∀ (v0 : Nat) (v2 : Int32) (v3 : Int32)  (M : hm_M) (r : Int32) (M' : hm_M), k4 v0 v2 v3 M = some (r, M') → hm_U X 4 [(0, .ref v0), (2, .int v2), (3, .int v3)] [] M (hm_Q X (some (.int r)) M')) {v0 : Nat} {v2 : Int32} {v3 : Int32} {s0 : Int32} {s1 : Int32} {s2 : Nat} {M : hm_M} {r : Int32} {M' : hm_M} (hF : b_Md_worthAt_3 S k4 v0 v2 v3 s0 s1 s2 M = some (r, M')) : hm_U X 64 [(0, .ref v0), (2, .int v2), (3, .int v3)] [.int s0, .int s1, .ref s2] M (hm_Q X (some (.int r)) M') := by
  unfold b_Md_worthAt_3 at hF
  obtain ⟨g1, hF⟩ := hg_some hF
  obtain ⟨n2, sn2, in2⟩ := hm_ib_ok g1
  refine jv_iastore hC dX12_worthAt_64 sn2 in2 ?_
  obtain ⟨M3, e4, hF⟩ := hl_some hF
  refine jv_mem e4 ?_
  refine jv_iinc hC 1 [(2, .int (v2 + (1 : Int32))), (0, .ref v0), (3, .int v3)] dX12_worthAt_65 rfl c32_1 (by decide) rfl ?_
  refine jv_goto hC 134 dX12_worthAt_68 (by decide) ?_
  refine jv_iinc hC 2 [(3, .int (v3 + (1 : Int32))), (2, .int (v2 + (1 : Int32))), (0, .ref v0)] dX12_worthAt_134 rfl c32_1 (by decide) rfl ?_
  refine jv_goto hC 4 dX12_worthAt_137 (by decide) ?_
  refine jv_sub [2, 1, 0] (ls' := [(0, .ref v0), (2, .int (v2 + (1 : Int32))), (3, .int (v3 + (1 : Int32)))]) rfl ?_
  exact jv_pc 4 rfl (hk4 _ _ _ _ _ _ hF)
set_option maxRecDepth 100000 in
set_option maxHeartbeats 4000000 in
theorem s_Md_worthAt_2 {X : hm_X} {n : Nat} {S : hm_S} (hC : hm_C X RX12 cX12_worthAt 5 (some .int) 2 n S) {k4 : Nat → Int32 → Int32 → hm_M → Option (Int32 × hm_M)} (hk4 : ∀ (v0 : Nat) (v2 : Int32) (v3 : Int32)  (M : hm_M) (r : Int32) (M' : hm_M), k4 v0 v2 v3 M = some (r, M') → hm_U X 4 [(0, .ref v0), (2, .int v2), (3, .int v3)] [] M (hm_Q X (some (.int r)) M')) {v0 : Nat} {v2 : Int32} {v3 : Int32} {v4 : Int32} {M : hm_M} {r : Int32} {M' : hm_M} (hF : b_Md_worthAt_2 S k4 v0 v2 v3 v4 M = some (r, M')) : hm_U X 33 [(0, .ref v0), (2, .int v2), (3, .int v3), (4, .int v4)] [] M (hm_Q X (some (.int r)) M') := by
  unfold b_Md_worthAt_2 at hF
  refine jv_aload_n hC 0 dX12_worthAt_33 rfl ?_
  obtain ⟨g1, hF⟩ := hg_some hF
  obtain ⟨g2, hF⟩ := hg_some hF
  refine jv_getR hC fl_X12_96 dX12_worthAt_34 rfl g1 g2 ?_
  refine jv_iload_n hC 1 dX12_worthAt_37 rfl ?_
  refine jv_iload hC 3 dX12_worthAt_38 rfl ?_
  refine jv_iconst hC dX12_worthAt_40 c32_1 ?_
  refine jv_icmp_ne hC 53 dX12_worthAt_41 (by decide) (fun h3 => ?_) (fun h3 => ?_)
  · have hF := hi_neg h3 hF
    refine jv_aload_n hC 0 dX12_worthAt_53 rfl ?_
    obtain ⟨g4, hF⟩ := hg_some hF
    refine jv_getR hC fl_X12_93 dX12_worthAt_54 rfl g1 g4 ?_
    refine jv_aload_n hC 0 dX12_worthAt_57 rfl ?_
    obtain ⟨g5, hF⟩ := hg_some hF
    refine jv_getR hC fl_X12_87 dX12_worthAt_58 rfl g1 g5 ?_
    refine jv_iload_n hC 2 dX12_worthAt_61 rfl ?_
    obtain ⟨g6, hF⟩ := hg_some hF
    obtain ⟨n7, sn7, in7⟩ := hm_ib_ok g6
    refine jv_iaload hC dX12_worthAt_62 sn7 in7 ?_
    obtain ⟨g8, hF⟩ := hg_some hF
    obtain ⟨n9, sn9, in9⟩ := hm_ib_ok g8
    refine jv_iaload hC dX12_worthAt_63 sn9 in9 ?_
    refine jv_sub [0, 1, 2] (ls' := [(0, .ref v0), (2, .int v2), (3, .int v3)]) rfl ?_
    exact jv_pc 64 rfl (s_Md_worthAt_3 hC hk4 hF)
  · have hF := hi_pos h3 hF
    refine jv_aload_n hC 0 dX12_worthAt_44 rfl ?_
    obtain ⟨g10, hF⟩ := hg_some hF
    refine jv_getR hC fl_X12_87 dX12_worthAt_45 rfl g1 g10 ?_
    refine jv_iload_n hC 2 dX12_worthAt_48 rfl ?_
    obtain ⟨g11, hF⟩ := hg_some hF
    obtain ⟨n12, sn12, in12⟩ := hm_ib_ok g11
    refine jv_iaload hC dX12_worthAt_49 sn12 in12 ?_
    refine jv_goto hC 64 dX12_worthAt_50 (by decide) ?_
    refine jv_sub [0, 1, 2] (ls' := [(0, .ref v0), (2, .int v2), (3, .int v3)]) rfl ?_
    exact jv_pc 64 rfl (s_Md_worthAt_3 hC hk4 hF)
set_option maxRecDepth 100000 in
set_option maxHeartbeats 4000000 in
theorem t_Md_worthAt_1 {X : hm_X} {n : Nat} {S : hm_S} (hC : hm_C X RX12 cX12_worthAt 5 (some .int) 2 n S) {k4 : Nat → Int32 → Int32 → hm_M → Option (Int32 × hm_M)} (hk4 : ∀ (v0 : Nat) (v2 : Int32) (v3 : Int32)  (M : hm_M) (r : Int32) (M' : hm_M), k4 v0 v2 v3 M = some (r, M') → hm_U X 4 [(0, .ref v0), (2, .int v2), (3, .int v3)] [] M (hm_Q X (some (.int r)) M')) {v0 : Nat} {v2 : Int32} {v3 : Int32} {M : hm_M} {r : Int32} {M' : hm_M} (hF : b_Md_worthAt_1 S k4 v0 v2 v3 M = some (r, M')) : hm_U X 4 [(0, .ref v0), (2, .int v2), (3, .int v3)] [] M (hm_Q X (some (.int r)) M') := by
  unfold b_Md_worthAt_1 at hF
  refine jv_aload_n hC 0 dX12_worthAt_4 rfl ?_
  obtain ⟨g1, hF⟩ := hg_some hF
  obtain ⟨g2, hF⟩ := hg_some hF
  refine jv_getR hC fl_X12_84 dX12_worthAt_5 rfl g1 g2 ?_
  refine jv_iload_n hC 2 dX12_worthAt_8 rfl ?_
  obtain ⟨g3, hF⟩ := hg_some hF
  obtain ⟨n4, sn4, in4⟩ := hm_ib_ok g3
  refine jv_iaload hC dX12_worthAt_9 sn4 in4 ?_
  refine jv_if_eq hC 140 dX12_worthAt_10 (by decide) (fun h5 => ?_) (fun h5 => ?_)
  · have hF := hi_pos h5 hF
    refine jv_aload_n hC 0 dX12_worthAt_140 rfl ?_
    obtain ⟨g6, hF⟩ := hg_some hF
    refine jv_getR hC fl_X12_96 dX12_worthAt_141 rfl g1 g6 ?_
    refine jv_iconst hC dX12_worthAt_144 c32_0 ?_
    obtain ⟨g7, hF⟩ := hg_some hF
    obtain ⟨n8, sn8, in8⟩ := hm_ib_ok g7
    refine jv_iaload hC dX12_worthAt_145 sn8 in8 ?_
    obtain ⟨rfl, rfl⟩ := hr_some hF
    exact jv_iret hC dX12_worthAt_146
  · have hF := hi_neg h5 hF
    refine jv_aload_n hC 0 dX12_worthAt_13 rfl ?_
    refine jv_getR hC fl_X12_84 dX12_worthAt_14 rfl g1 g2 ?_
    refine jv_iload_n hC 2 dX12_worthAt_17 rfl ?_
    refine jv_iaload hC dX12_worthAt_18 sn4 in4 ?_
    obtain ⟨x9, e10, hF⟩ := hl_some hF
    refine jv_topI e10 ?_
    refine jv_istore hC [(4, .int x9), (0, .ref v0), (2, .int v2), (3, .int v3)] dX12_worthAt_19 (by decide) rfl ?_
    refine jv_iload hC 0 dX12_worthAt_21 rfl ?_
    refine jv_iconst hC dX12_worthAt_23 c32_1 ?_
    refine jv_pc 24 rfl ?_
    refine jv_icmp_eq hC 33 dX12_worthAt_24 (by decide) (fun h11 => ?_) (fun h11 => ?_)
    · have hF := hi_pos h11 hF
      refine jv_sub [1, 2, 3, 0] (ls' := [(0, .ref v0), (2, .int v2), (3, .int v3), (4, .int x9)]) rfl ?_
      exact jv_pc 33 rfl (s_Md_worthAt_2 hC hk4 hF)
    · have hF := hi_neg h11 hF
      refine jv_iload hC 0 dX12_worthAt_27 rfl ?_
      refine jv_iconst hC dX12_worthAt_29 c32_2 ?_
      refine jv_icmp_ne hC 71 dX12_worthAt_30 (by decide) (fun h12 => ?_) (fun h12 => ?_)
      · have hF := hi_neg h12 hF
        refine jv_iload hC 0 dX12_worthAt_71 rfl ?_
        refine jv_iconst hC dX12_worthAt_73 c32_3 ?_
        refine jv_icmp_ne hC 104 dX12_worthAt_74 (by decide) (fun h13 => ?_) (fun h13 => ?_)
        · have hF := hi_neg h13 hF
          refine jv_iinc hC 2 [(2, .int (v2 + (-1 : Int32))), (4, .int x9), (0, .ref v0), (3, .int v3)] dX12_worthAt_104 rfl c32_m1 (by decide) rfl ?_
          refine jv_aload_n hC 2 dX12_worthAt_107 rfl ?_
          obtain ⟨g14, hF⟩ := hg_some hF
          refine jv_getR hC fl_X12_96 dX12_worthAt_108 rfl g1 g14 ?_
          refine jv_iload_n hC 0 dX12_worthAt_111 rfl ?_
          refine jv_iconst hC dX12_worthAt_112 c32_1 ?_
          refine jv_isub hC dX12_worthAt_113 ?_
          refine jv_iload hC 1 dX12_worthAt_114 rfl ?_
          refine jv_pc 116 rfl ?_
          refine jv_aload_n hC 2 dX12_worthAt_116 rfl ?_
          refine jv_getR hC fl_X12_96 dX12_worthAt_117 rfl g1 g14 ?_
          refine jv_iload_n hC 0 dX12_worthAt_120 rfl ?_
          refine jv_iconst hC dX12_worthAt_121 c32_1 ?_
          refine jv_isub hC dX12_worthAt_122 ?_
          obtain ⟨g15, hF⟩ := hg_some hF
          obtain ⟨n16, sn16, in16⟩ := hm_ib_ok g15
          refine jv_iaload hC dX12_worthAt_123 sn16 in16 ?_
          refine jv_aload_n hC 2 dX12_worthAt_124 rfl ?_
          refine jv_getR hC fl_X12_96 dX12_worthAt_125 rfl g1 g14 ?_
          refine jv_pc 128 rfl ?_
          refine jv_iload_n hC 0 dX12_worthAt_128 rfl ?_
          obtain ⟨g17, hF⟩ := hg_some hF
          obtain ⟨n18, sn18, in18⟩ := hm_ib_ok g17
          refine jv_iaload hC dX12_worthAt_129 sn18 in18 ?_
          obtain ⟨r21, M20, c19, hF⟩ := hb_some hF
          refine jv_callS hC (st := [.int ((v2 + (-1 : Int32)) - (1 : Int32)), .ref (M.2.2 v0 19)]) [.int x9, .int (M.1 (M.2.2 v0 19) ((v2 + (-1 : Int32)) - (1 : Int32)).toNatClampNeg), .int (M.1 (M.2.2 v0 19) (v2 + (-1 : Int32)).toNatClampNeg)] (k_Md_both c19) mm_Md_both ms_Md_both ml_X12_259 dX12_worthAt_130 (Nat.le_of_ble_eq_true rfl) rfl rfl (Nat.le_of_ble_eq_true rfl) ?_
          refine jv_nf 133 [.int r21, .int ((v2 + (-1 : Int32)) - (1 : Int32)), .ref (M.2.2 v0 19)] rfl rfl ?_
          refine jv_iastore hC dX12_worthAt_133 sn16 in16 ?_
          obtain ⟨M22, e23, hF⟩ := hl_some hF
          refine jv_mem e23 ?_
          refine jv_iinc hC 3 [(3, .int (v3 + (1 : Int32))), (2, .int (v2 + (-1 : Int32))), (4, .int x9), (0, .ref v0)] dX12_worthAt_134 rfl c32_1 (by decide) rfl ?_
          refine jv_goto hC 4 dX12_worthAt_137 (by decide) ?_
          refine jv_sub [3, 1, 0] (ls' := [(0, .ref v0), (2, .int (v2 + (-1 : Int32))), (3, .int (v3 + (1 : Int32)))]) rfl ?_
          exact jv_pc 4 rfl (hk4 _ _ _ _ _ _ hF)
        · have hF := hi_pos h13 hF
          refine jv_aload_n hC 1 dX12_worthAt_77 rfl ?_
          obtain ⟨g24, hF⟩ := hg_some hF
          refine jv_getR hC fl_X12_96 dX12_worthAt_78 rfl g1 g24 ?_
          refine jv_iload_n hC 2 dX12_worthAt_81 rfl ?_
          refine jv_iconst hC dX12_worthAt_82 c32_1 ?_
          refine jv_isub hC dX12_worthAt_83 ?_
          refine jv_aload_n hC 1 dX12_worthAt_84 rfl ?_
          refine jv_getR hC fl_X12_96 dX12_worthAt_85 rfl g1 g24 ?_
          refine jv_pc 88 rfl ?_
          refine jv_iload_n hC 2 dX12_worthAt_88 rfl ?_
          refine jv_iconst hC dX12_worthAt_89 c32_1 ?_
          refine jv_isub hC dX12_worthAt_90 ?_
          obtain ⟨g25, hF⟩ := hg_some hF
          obtain ⟨n26, sn26, in26⟩ := hm_ib_ok g25
          refine jv_iaload hC dX12_worthAt_91 sn26 in26 ?_
          refine jv_if_ne hC 99 dX12_worthAt_92 (by decide) (fun h27 => ?_) (fun h27 => ?_)
          · have hF := hi_neg h27 hF
            refine jv_iconst hC dX12_worthAt_99 c32_0 ?_
            refine jv_sub [1, 2, 3] (ls' := [(0, .ref v0), (2, .int v2), (3, .int v3)]) rfl ?_
            exact jv_pc 100 rfl (s_Md_worthAt_4 hC hk4 hF)
          · have hF := hi_pos h27 hF
            refine jv_iconst hC dX12_worthAt_95 c32_1 ?_
            refine jv_goto hC 100 dX12_worthAt_96 (by decide) ?_
            refine jv_sub [1, 2, 3] (ls' := [(0, .ref v0), (2, .int v2), (3, .int v3)]) rfl ?_
            exact jv_pc 100 rfl (s_Md_worthAt_4 hC hk4 hF)
      · have hF := hi_pos h12 hF
        refine jv_sub [1, 2, 3, 0] (ls' := [(0, .ref v0), (2, .int v2), (3, .int v3), (4, .int x9)]) rfl ?_
        exact jv_pc 33 rfl (s_Md_worthAt_2 hC hk4 hF)
theorem s_Md_worthAt_1 {X : hm_X} {n : Nat} {S : hm_S} (hC : hm_C X RX12 cX12_worthAt 5 (some .int) 2 n S) : ∀ (q : Nat) (v0 : Nat) (v2 : Int32) (v3 : Int32) (M : hm_M) (r : Int32) (M' : hm_M), f_Md_worthAt_1 S  q v0 v2 v3 M = some (r, M') → hm_U X 4 [(0, .ref v0), (2, .int v2), (3, .int v3)] [] M (hm_Q X (some (.int r)) M') := by
  intro q
  induction q with
  | zero => intro v0 v2 v3 M r M' hF; cases hF
  | succ q ih => intro v0 v2 v3 M r M' hF; exact t_Md_worthAt_1 hC ih hF
set_option maxRecDepth 100000 in
set_option maxHeartbeats 4000000 in
theorem k_Md_worthAt {n : Nat} {S : hm_S} {v0 : Nat} {v1 : Int32} {M : hm_M} {r : Int32} {M' : hm_M} (hF : f_Md_worthAt S v0 v1 M = some (r, M')) : hm_KM yX12_worthAt cX12_worthAt 5 (some .int) 2 n S [.ref v0, .int v1] M (some (.int r)) M' := by
  refine hm_enter mm_Md_worthAt (Nat.le_of_ble_eq_true rfl) (fun X hC => ?_)
  show hm_U X 0 [(0, .ref v0), (1, .int v1)] [] M _
  unfold f_Md_worthAt at hF
  refine jv_iconst hC dX12_worthAt_0 c32_0 ?_
  refine jv_istore_n hC [(2, .int (0 : Int32)), (0, .ref v0), (1, .int v1)] dX12_worthAt_1 (by decide) rfl ?_
  refine jv_iload_n hC 2 dX12_worthAt_2 rfl ?_
  refine jv_istore_n hC [(3, .int v1), (2, .int (0 : Int32)), (0, .ref v0), (1, .int v1)] dX12_worthAt_3 (by decide) rfl ?_
  refine jv_sub [2, 1, 0] (ls' := [(0, .ref v0), (2, .int (0 : Int32)), (3, .int v1)]) rfl ?_
  exact jv_pc 4 rfl (s_Md_worthAt_1 hC hN _ _ _ _ _ _ hF)
set_option maxRecDepth 100000 in
set_option maxHeartbeats 4000000 in
theorem k_Md_isDark {n : Nat} {S : hm_S} {v0 : Nat} {v1 : Int32} {v2 : Int32} {M : hm_M} {r : Int32} {M' : hm_M} (hF : f_Md_isDark S v0 v1 v2 M = some (r, M')) : hm_KM yX12_isDark cX12_isDark 3 (some .boolean) 3 n S [.ref v0, .int v1, .int v2] M (some (.int r)) M' := by
  refine hm_enter mm_Md_isDark (Nat.le_of_ble_eq_true rfl) (fun X hC => ?_)
  show hm_U X 0 [(0, .ref v0), (1, .int v1), (2, .int v2)] [] M _
  unfold f_Md_isDark at hF
  refine jv_aload_n hC 0 dX12_isDark_0 rfl ?_
  obtain ⟨g1, hF⟩ := hg_some hF
  obtain ⟨g2, hF⟩ := hg_some hF
  refine jv_getR hC fl_X12_93 dX12_isDark_1 rfl g1 g2 ?_
  refine jv_iconst hC dX12_isDark_4 c32_0 ?_
  refine jv_iload_n hC 1 dX12_isDark_5 rfl ?_
  obtain ⟨g3, hF⟩ := hg_some hF
  obtain ⟨n4, sn4, in4⟩ := hm_ib_ok g3
  refine jv_iastore hC dX12_isDark_6 sn4 in4 ?_
  obtain ⟨M5, e6, hF⟩ := hl_some hF
  refine jv_mem e6 ?_
  refine jv_aload_n hC 0 dX12_isDark_7 rfl ?_
  obtain ⟨g7, hF⟩ := hg_some hF
  refine jv_getR hC fl_X12_93 dX12_isDark_8 rfl g1 g7 ?_
  refine jv_pc 11 rfl ?_
  refine jv_iconst hC dX12_isDark_11 c32_1 ?_
  refine jv_iload_n hC 2 dX12_isDark_12 rfl ?_
  obtain ⟨g8, hF⟩ := hg_some hF
  obtain ⟨n9, sn9, in9⟩ := hm_ib_ok g8
  refine jv_iastore hC dX12_isDark_13 sn9 in9 ?_
  obtain ⟨M10, e11, hF⟩ := hl_some hF
  refine jv_mem e11 ?_
  refine jv_aload_n hC 0 dX12_isDark_14 rfl ?_
  obtain ⟨g12, hF⟩ := hg_some hF
  refine jv_getR hC fl_X12_81 dX12_isDark_15 rfl g1 g12 ?_
  refine jv_bipush hC dX12_isDark_18 c8_67 ?_
  obtain ⟨g13, hF⟩ := hg_some hF
  obtain ⟨n14, sn14, in14⟩ := hm_ib_ok g13
  refine jv_iaload hC dX12_isDark_20 sn14 in14 ?_
  refine jv_if_ge hC 44 dX12_isDark_21 (by decide) (fun h15 => ?_) (fun h15 => ?_)
  · have hF := hi_pos h15 hF
    refine jv_aload_n hC 0 dX12_isDark_44 rfl ?_
    refine jv_aload_n hC 0 dX12_isDark_45 rfl ?_
    refine jv_getR hC fl_X12_81 dX12_isDark_46 rfl g1 g12 ?_
    refine jv_bipush hC dX12_isDark_49 c8_67 ?_
    refine jv_iaload hC dX12_isDark_51 sn14 in14 ?_
    obtain ⟨r18, M17, c16, hF⟩ := hb_some hF
    refine jv_callV hC (st := []) [.int (M10.1 (M10.2.2 v0 10) (67 : Int32).toNatClampNeg)] (k_Md_worthAt c16) mm_Md_worthAt mi_Md_worthAt ml_X12_276 dX12_isDark_52 g1 rfl (Nat.le_of_ble_eq_true rfl) rfl rfl (Nat.le_of_ble_eq_true rfl) ?_
    refine jv_nf 55 [.int r18] rfl rfl ?_
    refine jv_if_eq hC 62 dX12_isDark_55 (by decide) (fun h19 => ?_) (fun h19 => ?_)
    · have hF := hi_pos h19 hF
      refine jv_iconst hC dX12_isDark_62 c32_0 ?_
      obtain ⟨rfl, rfl⟩ := hr_some hF
      exact jv_zret hC (by decide) dX12_isDark_63
    · have hF := hi_neg h19 hF
      refine jv_iconst hC dX12_isDark_58 c32_1 ?_
      refine jv_goto hC 63 dX12_isDark_59 (by decide) ?_
      obtain ⟨rfl, rfl⟩ := hr_some hF
      exact jv_zret hC (by decide) dX12_isDark_63
  · have hF := hi_neg h15 hF
    refine jv_iload_n hC 2 dX12_isDark_24 rfl ?_
    refine jv_bipush hC dX12_isDark_25 c8_6 ?_
    refine jv_icmp_lt hC 36 dX12_isDark_27 (by decide) (fun h20 => ?_) (fun h20 => ?_)
    · have hF := hi_pos h20 hF
      refine jv_iconst hC dX12_isDark_36 c32_1 ?_
      refine jv_goto hC 63 dX12_isDark_37 (by decide) ?_
      obtain ⟨rfl, rfl⟩ := hr_some hF
      exact jv_zret hC (by decide) dX12_isDark_63
    · have hF := hi_neg h20 hF
      refine jv_iload_n hC 2 dX12_isDark_30 rfl ?_
      refine jv_bipush hC dX12_isDark_31 c8_18 ?_
      refine jv_icmp_le hC 40 dX12_isDark_33 (by decide) (fun h21 => ?_) (fun h21 => ?_)
      · have hF := hi_pos h21 hF
        refine jv_iconst hC dX12_isDark_40 c32_0 ?_
        refine jv_goto hC 63 dX12_isDark_41 (by decide) ?_
        obtain ⟨rfl, rfl⟩ := hr_some hF
        exact jv_zret hC (by decide) dX12_isDark_63
      · have hF := hi_neg h21 hF
        refine jv_iconst hC dX12_isDark_36 c32_1 ?_
        refine jv_goto hC 63 dX12_isDark_37 (by decide) ?_
        obtain ⟨rfl, rfl⟩ := hr_some hF
        exact jv_zret hC (by decide) dX12_isDark_63
set_option maxRecDepth 100000 in
set_option maxHeartbeats 4000000 in
theorem k_Md_panes {n : Nat} {S : hm_S} {v0 : Nat} {M : hm_M} {r : Int32} {M' : hm_M} (hF : f_Md_panes S v0 M = some (r, M')) : hm_KM yX12_panes cX12_panes 1 (some .int) 1 n S [.ref v0] M (some (.int r)) M' := by
  refine hm_enter mm_Md_panes (Nat.le_of_ble_eq_true rfl) (fun X hC => ?_)
  show hm_U X 0 [(0, .ref v0)] [] M _
  unfold f_Md_panes at hF
  refine jv_aload_n hC 0 dX12_panes_0 rfl ?_
  obtain ⟨g1, hF⟩ := hg_some hF
  obtain ⟨g2, hF⟩ := hg_some hF
  refine jv_getR hC fl_X12_81 dX12_panes_1 rfl g1 g2 ?_
  refine jv_iconst hC dX12_panes_4 c32_4 ?_
  obtain ⟨g3, hF⟩ := hg_some hF
  obtain ⟨n4, sn4, in4⟩ := hm_ib_ok g3
  refine jv_iaload hC dX12_panes_5 sn4 in4 ?_
  obtain ⟨rfl, rfl⟩ := hr_some hF
  exact jv_iret hC dX12_panes_6
set_option maxRecDepth 100000 in
set_option maxHeartbeats 4000000 in
theorem k_Md_isBroken {n : Nat} {S : hm_S} {v0 : Nat} {v1 : Int32} {M : hm_M} {r : Int32} {M' : hm_M} (hF : f_Md_isBroken S v0 v1 M = some (r, M')) : hm_KM yX12_isBroken cX12_isBroken 2 (some .boolean) 1 n S [.ref v0, .int v1] M (some (.int r)) M' := by
  refine hm_enter mm_Md_isBroken (Nat.le_of_ble_eq_true rfl) (fun X hC => ?_)
  show hm_U X 0 [(0, .ref v0), (1, .int v1)] [] M _
  unfold f_Md_isBroken at hF
  refine jv_aload_n hC 0 dX12_isBroken_0 rfl ?_
  obtain ⟨g1, hF⟩ := hg_some hF
  obtain ⟨g2, hF⟩ := hg_some hF
  refine jv_getR hC fl_X12_99 dX12_isBroken_1 rfl g1 g2 ?_
  refine jv_bipush hC dX12_isBroken_4 c8_12 ?_
  obtain ⟨g3, hF⟩ := hg_some hF
  obtain ⟨n4, sn4, in4⟩ := hm_ib_ok g3
  refine jv_iaload hC dX12_isBroken_6 sn4 in4 ?_
  refine jv_iload_n hC 1 dX12_isBroken_7 rfl ?_
  refine jv_ishr hC dX12_isBroken_8 ?_
  refine jv_iconst hC dX12_isBroken_9 c32_1 ?_
  refine jv_pc 10 rfl ?_
  refine jv_iand hC dX12_isBroken_10 ?_
  refine jv_iconst hC dX12_isBroken_11 c32_1 ?_
  refine jv_icmp_ne hC 19 dX12_isBroken_12 (by decide) (fun h5 => ?_) (fun h5 => ?_)
  · have hF := hi_neg h5 hF
    refine jv_iconst hC dX12_isBroken_19 c32_0 ?_
    obtain ⟨rfl, rfl⟩ := hr_some hF
    exact jv_zret hC (by decide) dX12_isBroken_20
  · have hF := hi_pos h5 hF
    refine jv_iconst hC dX12_isBroken_15 c32_1 ?_
    refine jv_goto hC 20 dX12_isBroken_16 (by decide) ?_
    obtain ⟨rfl, rfl⟩ := hr_some hF
    exact jv_zret hC (by decide) dX12_isBroken_20
set_option maxRecDepth 100000 in
set_option maxHeartbeats 4000000 in
theorem k_Md_ownerOf {n : Nat} {S : hm_S} {v0 : Nat} {v1 : Int32} {M : hm_M} {r : Int32} {M' : hm_M} (hF : f_Md_ownerOf S v0 v1 M = some (r, M')) : hm_KM yX12_ownerOf cX12_ownerOf 2 (some .int) 1 n S [.ref v0, .int v1] M (some (.int r)) M' := by
  refine hm_enter mm_Md_ownerOf (Nat.le_of_ble_eq_true rfl) (fun X hC => ?_)
  show hm_U X 0 [(0, .ref v0), (1, .int v1)] [] M _
  unfold f_Md_ownerOf at hF
  refine jv_aload_n hC 0 dX12_ownerOf_0 rfl ?_
  obtain ⟨g1, hF⟩ := hg_some hF
  obtain ⟨g2, hF⟩ := hg_some hF
  refine jv_getR hC fl_X12_99 dX12_ownerOf_1 rfl g1 g2 ?_
  refine jv_iconst hC dX12_ownerOf_4 c32_0 ?_
  refine jv_iload_n hC 1 dX12_ownerOf_5 rfl ?_
  refine jv_iadd hC dX12_ownerOf_6 ?_
  obtain ⟨g3, hF⟩ := hg_some hF
  obtain ⟨n4, sn4, in4⟩ := hm_ib_ok g3
  refine jv_iaload hC dX12_ownerOf_7 sn4 in4 ?_
  obtain ⟨rfl, rfl⟩ := hr_some hF
  exact jv_iret hC dX12_ownerOf_8
set_option maxRecDepth 100000 in
set_option maxHeartbeats 4000000 in
theorem k_Md_paneOf {n : Nat} {S : hm_S} {v0 : Nat} {v1 : Int32} {v2 : Int32} {M : hm_M} {r : Int32} {M' : hm_M} (hF : f_Md_paneOf S v0 v1 v2 M = some (r, M')) : hm_KM yX12_paneOf cX12_paneOf 3 (some .int) 1 n S [.ref v0, .int v1, .int v2] M (some (.int r)) M' := by
  refine hm_enter mm_Md_paneOf (Nat.le_of_ble_eq_true rfl) (fun X hC => ?_)
  show hm_U X 0 [(0, .ref v0), (1, .int v1), (2, .int v2)] [] M _
  unfold f_Md_paneOf at hF
  refine jv_aload_n hC 0 dX12_paneOf_0 rfl ?_
  obtain ⟨g1, hF⟩ := hg_some hF
  obtain ⟨g2, hF⟩ := hg_some hF
  refine jv_getR hC fl_X12_81 dX12_paneOf_1 rfl g1 g2 ?_
  refine jv_bipush hC dX12_paneOf_4 c8_17 ?_
  refine jv_iconst hC dX12_paneOf_6 c32_4 ?_
  refine jv_iload_n hC 1 dX12_paneOf_7 rfl ?_
  refine jv_imul hC dX12_paneOf_8 ?_
  refine jv_iadd hC dX12_paneOf_9 ?_
  refine jv_pc 10 rfl ?_
  refine jv_iload_n hC 2 dX12_paneOf_10 rfl ?_
  refine jv_iadd hC dX12_paneOf_11 ?_
  obtain ⟨g3, hF⟩ := hg_some hF
  obtain ⟨n4, sn4, in4⟩ := hm_ib_ok g3
  refine jv_iaload hC dX12_paneOf_12 sn4 in4 ?_
  obtain ⟨rfl, rfl⟩ := hr_some hF
  exact jv_iret hC dX12_paneOf_13
set_option maxRecDepth 100000 in
set_option maxHeartbeats 4000000 in
theorem k_Md_isOn {n : Nat} {S : hm_S} {v0 : Nat} {v1 : Int32} {v2 : Int32} {M : hm_M} {r : Int32} {M' : hm_M} (hF : f_Md_isOn S v0 v1 v2 M = some (r, M')) : hm_KM yX12_isOn cX12_isOn 3 (some .boolean) 1 n S [.ref v0, .int v1, .int v2] M (some (.int r)) M' := by
  refine hm_enter mm_Md_isOn (Nat.le_of_ble_eq_true rfl) (fun X hC => ?_)
  show hm_U X 0 [(0, .ref v0), (1, .int v1), (2, .int v2)] [] M _
  unfold f_Md_isOn at hF
  refine jv_iload_n hC 1 dX12_isOn_0 rfl ?_
  refine jv_if_lt hC 32 dX12_isOn_1 (by decide) (fun h1 => ?_) (fun h1 => ?_)
  · have hF := hi_pos h1 hF
    refine jv_iconst hC dX12_isOn_32 c32_0 ?_
    obtain ⟨rfl, rfl⟩ := hr_some hF
    exact jv_zret hC (by decide) dX12_isOn_33
  · have hF := hi_neg h1 hF
    refine jv_iload_n hC 1 dX12_isOn_4 rfl ?_
    refine jv_aload_n hC 0 dX12_isOn_5 rfl ?_
    obtain ⟨g2, hF⟩ := hg_some hF
    obtain ⟨g3, hF⟩ := hg_some hF
    refine jv_getR hC fl_X12_81 dX12_isOn_6 rfl g2 g3 ?_
    refine jv_iconst hC dX12_isOn_9 c32_0 ?_
    obtain ⟨g4, hF⟩ := hg_some hF
    obtain ⟨n5, sn5, in5⟩ := hm_ib_ok g4
    refine jv_iaload hC dX12_isOn_10 sn5 in5 ?_
    refine jv_icmp_ge hC 32 dX12_isOn_11 (by decide) (fun h6 => ?_) (fun h6 => ?_)
    · have hF := hi_pos h6 hF
      refine jv_iconst hC dX12_isOn_32 c32_0 ?_
      obtain ⟨rfl, rfl⟩ := hr_some hF
      exact jv_zret hC (by decide) dX12_isOn_33
    · have hF := hi_neg h6 hF
      refine jv_iload_n hC 2 dX12_isOn_14 rfl ?_
      refine jv_if_lt hC 32 dX12_isOn_15 (by decide) (fun h7 => ?_) (fun h7 => ?_)
      · have hF := hi_pos h7 hF
        refine jv_iconst hC dX12_isOn_32 c32_0 ?_
        obtain ⟨rfl, rfl⟩ := hr_some hF
        exact jv_zret hC (by decide) dX12_isOn_33
      · have hF := hi_neg h7 hF
        refine jv_iload_n hC 2 dX12_isOn_18 rfl ?_
        refine jv_aload_n hC 0 dX12_isOn_19 rfl ?_
        refine jv_getR hC fl_X12_81 dX12_isOn_20 rfl g2 g3 ?_
        refine jv_iconst hC dX12_isOn_23 c32_1 ?_
        obtain ⟨g8, hF⟩ := hg_some hF
        obtain ⟨n9, sn9, in9⟩ := hm_ib_ok g8
        refine jv_iaload hC dX12_isOn_24 sn9 in9 ?_
        refine jv_icmp_ge hC 32 dX12_isOn_25 (by decide) (fun h10 => ?_) (fun h10 => ?_)
        · have hF := hi_pos h10 hF
          refine jv_iconst hC dX12_isOn_32 c32_0 ?_
          obtain ⟨rfl, rfl⟩ := hr_some hF
          exact jv_zret hC (by decide) dX12_isOn_33
        · have hF := hi_neg h10 hF
          refine jv_iconst hC dX12_isOn_28 c32_1 ?_
          refine jv_goto hC 33 dX12_isOn_29 (by decide) ?_
          obtain ⟨rfl, rfl⟩ := hr_some hF
          exact jv_zret hC (by decide) dX12_isOn_33
set_option maxRecDepth 100000 in
set_option maxHeartbeats 4000000 in
theorem s_Md_findLight_4 {X : hm_X} {n : Nat} {S : hm_S} (hC : hm_C X RX12 cX12_findLight 7 none 4 n S) {k10 : Nat → Int32 → Int32 → Int32 → Int32 → hm_M → Option hm_M} (hk10 : ∀ (v0 : Nat) (v1 : Int32) (v2 : Int32) (v3 : Int32) (v4 : Int32)  (M : hm_M) (M' : hm_M), k10 v0 v1 v2 v3 v4 M = some M' → hm_U X 10 [(0, .ref v0), (1, .int v1), (2, .int v2), (3, .int v3), (4, .int v4)] [] M (hm_Q X none M')) {v0 : Nat} {v1 : Int32} {v2 : Int32} {v3 : Int32} {v4 : Int32} {s0 : Int32} {s1 : Int32} {s2 : Nat} {M : hm_M} {M' : hm_M} (hF : b_Md_findLight_4 S k10 v0 v1 v2 v3 v4 s0 s1 s2 M = some M') : hm_U X 196 [(0, .ref v0), (1, .int v1), (2, .int v2), (3, .int v3), (4, .int v4)] [.int s0, .int s1, .ref s2] M (hm_Q X none M') := by
  unfold b_Md_findLight_4 at hF
  obtain ⟨g1, hF⟩ := hg_some hF
  obtain ⟨n2, sn2, in2⟩ := hm_ib_ok g1
  refine jv_iastore hC dX12_findLight_196 sn2 in2 ?_
  obtain ⟨M3, e4, hF⟩ := hl_some hF
  refine jv_mem e4 ?_
  refine jv_iinc hC 4 [(4, .int (v4 + (1 : Int32))), (0, .ref v0), (1, .int v1), (2, .int v2), (3, .int v3)] dX12_findLight_197 rfl c32_1 (by decide) rfl ?_
  refine jv_goto hC 10 dX12_findLight_200 (by decide) ?_
  refine jv_sub [1, 2, 3, 4, 0] (ls' := [(0, .ref v0), (1, .int v1), (2, .int v2), (3, .int v3), (4, .int (v4 + (1 : Int32)))]) rfl ?_
  exact jv_pc 10 rfl (hk10 _ _ _ _ _ _ _ hF)
set_option maxRecDepth 100000 in
set_option maxHeartbeats 4000000 in
theorem s_Md_findLight_3 {X : hm_X} {n : Nat} {S : hm_S} (hC : hm_C X RX12 cX12_findLight 7 none 4 n S) {k10 : Nat → Int32 → Int32 → Int32 → Int32 → hm_M → Option hm_M} (hk10 : ∀ (v0 : Nat) (v1 : Int32) (v2 : Int32) (v3 : Int32) (v4 : Int32)  (M : hm_M) (M' : hm_M), k10 v0 v1 v2 v3 v4 M = some M' → hm_U X 10 [(0, .ref v0), (1, .int v1), (2, .int v2), (3, .int v3), (4, .int v4)] [] M (hm_Q X none M')) {v0 : Nat} {v1 : Int32} {v2 : Int32} {v3 : Int32} {v4 : Int32} {v5 : Int32} {s0 : Int32} {M : hm_M} {M' : hm_M} (hF : b_Md_findLight_3 S k10 v0 v1 v2 v3 v4 v5 s0 M = some M') : hm_U X 165 [(0, .ref v0), (1, .int v1), (2, .int v2), (3, .int v3), (4, .int v4), (5, .int v5)] [.int s0] M (hm_Q X none M') := by
  unfold b_Md_findLight_3 at hF
  refine jv_istore hC [(6, .int s0), (0, .ref v0), (1, .int v1), (2, .int v2), (3, .int v3), (4, .int v4), (5, .int v5)] dX12_findLight_165 (by decide) rfl ?_
  refine jv_aload_n hC 1 dX12_findLight_167 rfl ?_
  obtain ⟨g1, hF⟩ := hg_some hF
  obtain ⟨g2, hF⟩ := hg_some hF
  refine jv_getR hC fl_X12_106 dX12_findLight_168 rfl g1 g2 ?_
  refine jv_iload hC 5 dX12_findLight_171 rfl ?_
  refine jv_aload_n hC 1 dX12_findLight_173 rfl ?_
  refine jv_iload hC 6 dX12_findLight_174 rfl ?_
  refine jv_iload hC 0 dX12_findLight_176 rfl ?_
  refine jv_pc 178 rfl ?_
  obtain ⟨r5, M4, c3, hF⟩ := hb_some hF
  refine jv_callV hC (st := [.int v4, .ref (M.2.2 v0 24)]) [.int v5, .int s0] (k_Md_isOn c3) mm_Md_isOn mi_Md_isOn ml_X12_295 dX12_findLight_178 g1 rfl (Nat.le_of_ble_eq_true rfl) rfl rfl (Nat.le_of_ble_eq_true rfl) ?_
  refine jv_nf 181 [.int r5, .int v4, .ref (M.2.2 v0 24)] rfl rfl ?_
  refine jv_if_eq hC 195 dX12_findLight_181 (by decide) (fun h6 => ?_) (fun h6 => ?_)
  · have hF := hi_pos h6 hF
    refine jv_iconst hC dX12_findLight_195 c32_m1 ?_
    refine jv_sub [1, 2, 3, 4, 5] (ls' := [(0, .ref v0), (1, .int v1), (2, .int v2), (3, .int v3), (4, .int v4)]) rfl ?_
    exact jv_pc 196 rfl (s_Md_findLight_4 hC hk10 hF)
  · have hF := hi_neg h6 hF
    refine jv_bipush hC dX12_findLight_184 c8_8 ?_
    refine jv_iload hC 0 dX12_findLight_186 rfl ?_
    refine jv_imul hC dX12_findLight_188 ?_
    refine jv_iload hC 6 dX12_findLight_189 rfl ?_
    refine jv_iadd hC dX12_findLight_191 ?_
    refine jv_goto hC 196 dX12_findLight_192 (by decide) ?_
    refine jv_sub [1, 2, 3, 4, 5] (ls' := [(0, .ref v0), (1, .int v1), (2, .int v2), (3, .int v3), (4, .int v4)]) rfl ?_
    exact jv_pc 196 rfl (s_Md_findLight_4 hC hk10 hF)
set_option maxRecDepth 100000 in
set_option maxHeartbeats 4000000 in
theorem s_Md_findLight_2 {X : hm_X} {n : Nat} {S : hm_S} (hC : hm_C X RX12 cX12_findLight 7 none 4 n S) {k10 : Nat → Int32 → Int32 → Int32 → Int32 → hm_M → Option hm_M} (hk10 : ∀ (v0 : Nat) (v1 : Int32) (v2 : Int32) (v3 : Int32) (v4 : Int32)  (M : hm_M) (M' : hm_M), k10 v0 v1 v2 v3 v4 M = some M' → hm_U X 10 [(0, .ref v0), (1, .int v1), (2, .int v2), (3, .int v3), (4, .int v4)] [] M (hm_Q X none M')) {v0 : Nat} {v1 : Int32} {v2 : Int32} {v3 : Int32} {v4 : Int32} {s0 : Int32} {s1 : Int32} {M : hm_M} {M' : hm_M} (hF : b_Md_findLight_2 S k10 v0 v1 v2 v3 v4 s0 s1 M = some M') : hm_U X 131 [(0, .ref v0), (1, .int v1), (2, .int v2), (3, .int v3), (4, .int v4)] [.int s0, .int s1] M (hm_Q X none M') := by
  unfold b_Md_findLight_2 at hF
  refine jv_iadd hC dX12_findLight_131 ?_
  obtain ⟨x1, e2, hF⟩ := hl_some hF
  refine jv_topI e2 ?_
  refine jv_istore hC [(5, .int x1), (0, .ref v0), (1, .int v1), (2, .int v2), (3, .int v3), (4, .int v4)] dX12_findLight_132 (by decide) rfl ?_
  refine jv_aload_n hC 1 dX12_findLight_134 rfl ?_
  obtain ⟨g3, hF⟩ := hg_some hF
  obtain ⟨g4, hF⟩ := hg_some hF
  refine jv_getR hC fl_X12_81 dX12_findLight_135 rfl g3 g4 ?_
  refine jv_bipush hC dX12_findLight_138 c8_66 ?_
  obtain ⟨g5, hF⟩ := hg_some hF
  obtain ⟨n6, sn6, in6⟩ := hm_ib_ok g5
  refine jv_iaload hC dX12_findLight_140 sn6 in6 ?_
  refine jv_if_ge hC 154 dX12_findLight_141 (by decide) (fun h7 => ?_) (fun h7 => ?_)
  · have hF := hi_pos h7 hF
    refine jv_aload_n hC 1 dX12_findLight_154 rfl ?_
    refine jv_aload_n hC 1 dX12_findLight_155 rfl ?_
    refine jv_getR hC fl_X12_81 dX12_findLight_156 rfl g3 g4 ?_
    refine jv_bipush hC dX12_findLight_159 c8_66 ?_
    refine jv_iaload hC dX12_findLight_161 sn6 in6 ?_
    obtain ⟨r10, M9, c8, hF⟩ := hb_some hF
    refine jv_callV hC (st := []) [.int (M.1 (M.2.2 v0 10) (66 : Int32).toNatClampNeg)] (k_Md_worthAt c8) mm_Md_worthAt mi_Md_worthAt ml_X12_276 dX12_findLight_162 g3 rfl (Nat.le_of_ble_eq_true rfl) rfl rfl (Nat.le_of_ble_eq_true rfl) ?_
    refine jv_nf 165 [.int r10] rfl rfl ?_
    refine jv_sub [1, 2, 3, 4, 5, 0] (ls' := [(0, .ref v0), (1, .int v1), (2, .int v2), (3, .int v3), (4, .int v4), (5, .int x1)]) rfl ?_
    exact jv_pc 165 rfl (s_Md_findLight_3 hC hk10 hF)
  · have hF := hi_neg h7 hF
    refine jv_aload_n hC 1 dX12_findLight_144 rfl ?_
    refine jv_iload hC 5 dX12_findLight_145 rfl ?_
    refine jv_iconst hC dX12_findLight_147 c32_1 ?_
    obtain ⟨r13, M12, c11, hF⟩ := hb_some hF
    refine jv_callV hC (st := []) [.int v4, .int (1 : Int32)] (k_Md_paneOf c11) mm_Md_paneOf mi_Md_paneOf ml_X12_292 dX12_findLight_148 g3 rfl (Nat.le_of_ble_eq_true rfl) rfl rfl (Nat.le_of_ble_eq_true rfl) ?_
    refine jv_nf 151 [.int r13] rfl rfl ?_
    refine jv_goto hC 165 dX12_findLight_151 (by decide) ?_
    refine jv_sub [1, 2, 3, 4, 5, 0] (ls' := [(0, .ref v0), (1, .int v1), (2, .int v2), (3, .int v3), (4, .int v4), (5, .int x1)]) rfl ?_
    exact jv_pc 165 rfl (s_Md_findLight_3 hC hk10 hF)
set_option maxRecDepth 100000 in
set_option maxHeartbeats 4000000 in
theorem t_Md_findLight_1 {X : hm_X} {n : Nat} {S : hm_S} (hC : hm_C X RX12 cX12_findLight 7 none 4 n S) {k10 : Nat → Int32 → Int32 → Int32 → Int32 → hm_M → Option hm_M} (hk10 : ∀ (v0 : Nat) (v1 : Int32) (v2 : Int32) (v3 : Int32) (v4 : Int32)  (M : hm_M) (M' : hm_M), k10 v0 v1 v2 v3 v4 M = some M' → hm_U X 10 [(0, .ref v0), (1, .int v1), (2, .int v2), (3, .int v3), (4, .int v4)] [] M (hm_Q X none M')) {v0 : Nat} {v1 : Int32} {v2 : Int32} {v3 : Int32} {v4 : Int32} {M : hm_M} {M' : hm_M} (hF : b_Md_findLight_1 S k10 v0 v1 v2 v3 v4 M = some M') : hm_U X 10 [(0, .ref v0), (1, .int v1), (2, .int v2), (3, .int v3), (4, .int v4)] [] M (hm_Q X none M') := by
  unfold b_Md_findLight_1 at hF
  refine jv_iload hC 4 dX12_findLight_10 rfl ?_
  refine jv_aload_n hC 0 dX12_findLight_12 rfl ?_
  obtain ⟨g1, hF⟩ := hg_some hF
  obtain ⟨r4, M3, c2, hF⟩ := hb_some hF
  refine jv_callV hC (st := [.int v4]) [] (k_Md_panes c2) mm_Md_panes mi_Md_panes ml_X12_269 dX12_findLight_13 g1 rfl (Nat.le_of_ble_eq_true rfl) rfl rfl (Nat.le_of_ble_eq_true rfl) ?_
  refine jv_nf 16 [.int r4, .int v4] rfl rfl ?_
  refine jv_icmp_ge hC 203 dX12_findLight_16 (by decide) (fun h5 => ?_) (fun h5 => ?_)
  · have hF := hi_pos h5 hF
    obtain rfl := hr_somev hF
    exact jv_vret hC dX12_findLight_203
  · have hF := hi_neg h5 hF
    refine jv_aload_n hC 0 dX12_findLight_19 rfl ?_
    obtain ⟨g6, hF⟩ := hg_some hF
    refine jv_getR hC fl_X12_106 dX12_findLight_20 rfl g1 g6 ?_
    refine jv_iload hC 4 dX12_findLight_23 rfl ?_
    refine jv_iconst hC dX12_findLight_25 c32_m1 ?_
    obtain ⟨g7, hF⟩ := hg_some hF
    obtain ⟨n8, sn8, in8⟩ := hm_ib_ok g7
    refine jv_iastore hC dX12_findLight_26 sn8 in8 ?_
    obtain ⟨M9, e10, hF⟩ := hl_some hF
    refine jv_mem e10 ?_
    refine jv_iload_n hC 3 dX12_findLight_27 rfl ?_
    refine jv_if_ne hC 197 dX12_findLight_28 (by decide) (fun h11 => ?_) (fun h11 => ?_)
    · have hF := hi_neg h11 hF
      refine jv_iinc hC 4 [(4, .int (v4 + (1 : Int32))), (0, .ref v0), (1, .int v1), (2, .int v2), (3, .int v3)] dX12_findLight_197 rfl c32_1 (by decide) rfl ?_
      refine jv_goto hC 10 dX12_findLight_200 (by decide) ?_
      refine jv_sub [1, 2, 3, 4, 0] (ls' := [(0, .ref v0), (1, .int v1), (2, .int v2), (3, .int v3), (4, .int (v4 + (1 : Int32)))]) rfl ?_
      exact jv_pc 10 rfl (hk10 _ _ _ _ _ _ _ hF)
    · have hF := hi_pos h11 hF
      refine jv_aload_n hC 0 dX12_findLight_31 rfl ?_
      refine jv_iload hC 4 dX12_findLight_32 rfl ?_
      obtain ⟨r14, M13, c12, hF⟩ := hb_some hF
      refine jv_callV hC (st := []) [.int v4] (k_Md_isBroken c12) mm_Md_isBroken mi_Md_isBroken ml_X12_283 dX12_findLight_34 g1 rfl (Nat.le_of_ble_eq_true rfl) rfl rfl (Nat.le_of_ble_eq_true rfl) ?_
      refine jv_nf 37 [.int r14] rfl rfl ?_
      refine jv_if_ne hC 197 dX12_findLight_37 (by decide) (fun h15 => ?_) (fun h15 => ?_)
      · have hF := hi_neg h15 hF
        refine jv_iinc hC 4 [(4, .int (v4 + (1 : Int32))), (0, .ref v0), (1, .int v1), (2, .int v2), (3, .int v3)] dX12_findLight_197 rfl c32_1 (by decide) rfl ?_
        refine jv_goto hC 10 dX12_findLight_200 (by decide) ?_
        refine jv_sub [1, 2, 3, 4, 0] (ls' := [(0, .ref v0), (1, .int v1), (2, .int v2), (3, .int v3), (4, .int (v4 + (1 : Int32)))]) rfl ?_
        exact jv_pc 10 rfl (hk10 _ _ _ _ _ _ _ hF)
      · have hF := hi_pos h15 hF
        refine jv_aload_n hC 0 dX12_findLight_40 rfl ?_
        refine jv_getI hC fl_X12_286 dX12_findLight_41 rfl g1 ?_
        refine jv_aload_n hC 0 dX12_findLight_44 rfl ?_
        refine jv_iload hC 4 dX12_findLight_45 rfl ?_
        obtain ⟨r18, M17, c16, hF⟩ := hb_some hF
        refine jv_callV hC (st := [.int (M13.1 v0 23)]) [.int v4] (k_Md_ownerOf c16) mm_Md_ownerOf mi_Md_ownerOf ml_X12_289 dX12_findLight_47 g1 rfl (Nat.le_of_ble_eq_true rfl) rfl rfl (Nat.le_of_ble_eq_true rfl) ?_
        refine jv_nf 50 [.int r18, .int (M13.1 v0 23)] rfl rfl ?_
        refine jv_ishr hC dX12_findLight_50 ?_
        refine jv_iconst hC dX12_findLight_51 c32_1 ?_
        refine jv_iand hC dX12_findLight_52 ?_
        refine jv_if_ne hC 197 dX12_findLight_53 (by decide) (fun h19 => ?_) (fun h19 => ?_)
        · have hF := hi_neg h19 hF
          refine jv_iinc hC 4 [(4, .int (v4 + (1 : Int32))), (0, .ref v0), (1, .int v1), (2, .int v2), (3, .int v3)] dX12_findLight_197 rfl c32_1 (by decide) rfl ?_
          refine jv_goto hC 10 dX12_findLight_200 (by decide) ?_
          refine jv_sub [1, 2, 3, 4, 0] (ls' := [(0, .ref v0), (1, .int v1), (2, .int v2), (3, .int v3), (4, .int (v4 + (1 : Int32)))]) rfl ?_
          exact jv_pc 10 rfl (hk10 _ _ _ _ _ _ _ hF)
        · have hF := hi_pos h19 hF
          refine jv_aload_n hC 0 dX12_findLight_56 rfl ?_
          obtain ⟨g20, hF⟩ := hg_some hF
          refine jv_getR hC fl_X12_93 dX12_findLight_57 rfl g1 g20 ?_
          refine jv_iconst hC dX12_findLight_60 c32_0 ?_
          refine jv_iload_n hC 1 dX12_findLight_61 rfl ?_
          obtain ⟨g21, hF⟩ := hg_some hF
          obtain ⟨n22, sn22, in22⟩ := hm_ib_ok g21
          refine jv_iastore hC dX12_findLight_62 sn22 in22 ?_
          obtain ⟨M23, e24, hF⟩ := hl_some hF
          refine jv_mem e24 ?_
          refine jv_aload_n hC 0 dX12_findLight_63 rfl ?_
          obtain ⟨g25, hF⟩ := hg_some hF
          refine jv_getR hC fl_X12_93 dX12_findLight_64 rfl g1 g25 ?_
          refine jv_pc 67 rfl ?_
          refine jv_iconst hC dX12_findLight_67 c32_1 ?_
          refine jv_iload_n hC 2 dX12_findLight_68 rfl ?_
          obtain ⟨g26, hF⟩ := hg_some hF
          obtain ⟨n27, sn27, in27⟩ := hm_ib_ok g26
          refine jv_iastore hC dX12_findLight_69 sn27 in27 ?_
          obtain ⟨M28, e29, hF⟩ := hl_some hF
          refine jv_mem e29 ?_
          refine jv_aload_n hC 0 dX12_findLight_70 rfl ?_
          obtain ⟨g30, hF⟩ := hg_some hF
          refine jv_getR hC fl_X12_93 dX12_findLight_71 rfl g1 g30 ?_
          refine jv_iconst hC dX12_findLight_74 c32_2 ?_
          refine jv_aload_n hC 0 dX12_findLight_75 rfl ?_
          refine jv_iload hC 4 dX12_findLight_76 rfl ?_
          refine jv_pc 78 rfl ?_
          refine jv_iconst hC dX12_findLight_78 c32_0 ?_
          obtain ⟨r33, M32, c31, hF⟩ := hb_some hF
          refine jv_callV hC (st := [.int (2 : Int32), .ref (M28.2.2 v0 18)]) [.int v4, .int (0 : Int32)] (k_Md_paneOf c31) mm_Md_paneOf mi_Md_paneOf ml_X12_292 dX12_findLight_79 g1 rfl (Nat.le_of_ble_eq_true rfl) rfl rfl (Nat.le_of_ble_eq_true rfl) ?_
          refine jv_nf 82 [.int r33, .int (2 : Int32), .ref (M28.2.2 v0 18)] rfl rfl ?_
          obtain ⟨g34, hF⟩ := hg_some hF
          obtain ⟨n35, sn35, in35⟩ := hm_ib_ok g34
          refine jv_iastore hC dX12_findLight_82 sn35 in35 ?_
          obtain ⟨M36, e37, hF⟩ := hl_some hF
          refine jv_mem e37 ?_
          refine jv_aload_n hC 0 dX12_findLight_83 rfl ?_
          obtain ⟨g38, hF⟩ := hg_some hF
          refine jv_getR hC fl_X12_93 dX12_findLight_84 rfl g1 g38 ?_
          refine jv_iconst hC dX12_findLight_87 c32_3 ?_
          refine jv_aload_n hC 0 dX12_findLight_88 rfl ?_
          refine jv_iload hC 4 dX12_findLight_89 rfl ?_
          refine jv_iconst hC dX12_findLight_91 c32_1 ?_
          refine jv_pc 92 rfl ?_
          obtain ⟨r41, M40, c39, hF⟩ := hb_some hF
          refine jv_callV hC (st := [.int (3 : Int32), .ref (M36.2.2 v0 18)]) [.int v4, .int (1 : Int32)] (k_Md_paneOf c39) mm_Md_paneOf mi_Md_paneOf ml_X12_292 dX12_findLight_92 g1 rfl (Nat.le_of_ble_eq_true rfl) rfl rfl (Nat.le_of_ble_eq_true rfl) ?_
          refine jv_nf 95 [.int r41, .int (3 : Int32), .ref (M36.2.2 v0 18)] rfl rfl ?_
          obtain ⟨g42, hF⟩ := hg_some hF
          obtain ⟨n43, sn43, in43⟩ := hm_ib_ok g42
          refine jv_iastore hC dX12_findLight_95 sn43 in43 ?_
          obtain ⟨M44, e45, hF⟩ := hl_some hF
          refine jv_mem e45 ?_
          refine jv_aload_n hC 0 dX12_findLight_96 rfl ?_
          refine jv_iload hC 4 dX12_findLight_97 rfl ?_
          refine jv_iconst hC dX12_findLight_99 c32_0 ?_
          obtain ⟨r48, M47, c46, hF⟩ := hb_some hF
          refine jv_callV hC (st := []) [.int v4, .int (0 : Int32)] (k_Md_paneOf c46) mm_Md_paneOf mi_Md_paneOf ml_X12_292 dX12_findLight_100 g1 rfl (Nat.le_of_ble_eq_true rfl) rfl rfl (Nat.le_of_ble_eq_true rfl) ?_
          refine jv_nf 103 [.int r48] rfl rfl ?_
          refine jv_aload_n hC 0 dX12_findLight_103 rfl ?_
          obtain ⟨g49, hF⟩ := hg_some hF
          refine jv_getR hC fl_X12_81 dX12_findLight_104 rfl g1 g49 ?_
          refine jv_bipush hC dX12_findLight_107 c8_65 ?_
          obtain ⟨g50, hF⟩ := hg_some hF
          obtain ⟨n51, sn51, in51⟩ := hm_ib_ok g50
          refine jv_iaload hC dX12_findLight_109 sn51 in51 ?_
          refine jv_if_ge hC 120 dX12_findLight_110 (by decide) (fun h52 => ?_) (fun h52 => ?_)
          · have hF := hi_pos h52 hF
            refine jv_aload_n hC 0 dX12_findLight_120 rfl ?_
            refine jv_aload_n hC 0 dX12_findLight_121 rfl ?_
            refine jv_getR hC fl_X12_81 dX12_findLight_122 rfl g1 g49 ?_
            refine jv_bipush hC dX12_findLight_125 c8_65 ?_
            refine jv_iaload hC dX12_findLight_127 sn51 in51 ?_
            obtain ⟨r55, M54, c53, hF⟩ := hb_some hF
            refine jv_callV hC (st := [.int r48]) [.int (M47.1 (M47.2.2 v0 10) (65 : Int32).toNatClampNeg)] (k_Md_worthAt c53) mm_Md_worthAt mi_Md_worthAt ml_X12_276 dX12_findLight_128 g1 rfl (Nat.le_of_ble_eq_true rfl) rfl rfl (Nat.le_of_ble_eq_true rfl) ?_
            refine jv_nf 131 [.int r55, .int r48] rfl rfl ?_
            exact jv_pc 131 rfl (s_Md_findLight_2 hC hk10 hF)
          · have hF := hi_neg h52 hF
            refine jv_iload_n hC 2 dX12_findLight_113 rfl ?_
            refine jv_bipush hC dX12_findLight_114 c8_12 ?_
            refine jv_isub hC dX12_findLight_116 ?_
            refine jv_goto hC 131 dX12_findLight_117 (by decide) ?_
            exact jv_pc 131 rfl (s_Md_findLight_2 hC hk10 hF)
theorem s_Md_findLight_1 {X : hm_X} {n : Nat} {S : hm_S} (hC : hm_C X RX12 cX12_findLight 7 none 4 n S) : ∀ (q : Nat) (v0 : Nat) (v1 : Int32) (v2 : Int32) (v3 : Int32) (v4 : Int32) (M : hm_M) (M' : hm_M), f_Md_findLight_1 S  q v0 v1 v2 v3 v4 M = some M' → hm_U X 10 [(0, .ref v0), (1, .int v1), (2, .int v2), (3, .int v3), (4, .int v4)] [] M (hm_Q X none M') := by
  intro q
  induction q with
  | zero => intro v0 v1 v2 v3 v4 M M' hF; cases hF
  | succ q ih => intro v0 v1 v2 v3 v4 M M' hF; exact t_Md_findLight_1 hC ih hF
set_option maxRecDepth 100000 in
set_option maxHeartbeats 4000000 in
theorem k_Md_findLight {n : Nat} {S : hm_S} {v0 : Nat} {v1 : Int32} {v2 : Int32} {M : hm_M} {M' : hm_M} (hF : f_Md_findLight S v0 v1 v2 M = some M') : hm_KM yX12_findLight cX12_findLight 7 none 4 n S [.ref v0, .int v1, .int v2] M none M' := by
  refine hm_enter mm_Md_findLight (Nat.le_of_ble_eq_true rfl) (fun X hC => ?_)
  show hm_U X 0 [(0, .ref v0), (1, .int v1), (2, .int v2)] [] M _
  unfold f_Md_findLight at hF
  refine jv_aload_n hC 0 dX12_findLight_0 rfl ?_
  refine jv_iload_n hC 1 dX12_findLight_1 rfl ?_
  refine jv_iload_n hC 2 dX12_findLight_2 rfl ?_
  obtain ⟨g1, hF⟩ := hg_some hF
  obtain ⟨r4, M3, c2, hF⟩ := hb_some hF
  refine jv_callV hC (st := []) [.int v1, .int v2] (k_Md_isDark c2) mm_Md_isDark mi_Md_isDark ml_X12_279 dX12_findLight_3 g1 rfl (Nat.le_of_ble_eq_true rfl) rfl rfl (Nat.le_of_ble_eq_true rfl) ?_
  refine jv_nf 6 [.int r4] rfl rfl ?_
  refine jv_istore_n hC [(3, .int r4), (0, .ref v0), (1, .int v1), (2, .int v2)] dX12_findLight_6 (by decide) rfl ?_
  refine jv_iconst hC dX12_findLight_7 c32_0 ?_
  refine jv_istore hC [(4, .int (0 : Int32)), (3, .int r4), (0, .ref v0), (1, .int v1), (2, .int v2)] dX12_findLight_8 (by decide) rfl ?_
  refine jv_sub [2, 3, 4, 1, 0] (ls' := [(0, .ref v0), (1, .int v1), (2, .int v2), (3, .int r4), (4, .int (0 : Int32))]) rfl ?_
  exact jv_pc 10 rfl (s_Md_findLight_1 hC hN _ _ _ _ _ _ _ hF)
set_option maxRecDepth 100000 in
set_option maxHeartbeats 4000000 in
theorem t_Md_lightAt_1 {X : hm_X} {n : Nat} {S : hm_S} (hC : hm_C X RX12 cX12_lightAt 7 (some .int) 2 n S) {k11 : Nat → Int32 → Int32 → Int32 → Int32 → Int32 → Int32 → hm_M → Option (Int32 × hm_M)} (hk11 : ∀ (v0 : Nat) (v1 : Int32) (v2 : Int32) (v3 : Int32) (v4 : Int32) (v5 : Int32) (v6 : Int32)  (M : hm_M) (r : Int32) (M' : hm_M), k11 v0 v1 v2 v3 v4 v5 v6 M = some (r, M') → hm_U X 11 [(0, .ref v0), (1, .int v1), (2, .int v2), (3, .int v3), (4, .int v4), (5, .int v5), (6, .int v6)] [] M (hm_Q X (some (.int r)) M')) {v0 : Nat} {v1 : Int32} {v2 : Int32} {v3 : Int32} {v4 : Int32} {v5 : Int32} {v6 : Int32} {M : hm_M} {r : Int32} {M' : hm_M} (hF : b_Md_lightAt_1 S k11 v0 v1 v2 v3 v4 v5 v6 M = some (r, M')) : hm_U X 11 [(0, .ref v0), (1, .int v1), (2, .int v2), (3, .int v3), (4, .int v4), (5, .int v5), (6, .int v6)] [] M (hm_Q X (some (.int r)) M') := by
  unfold b_Md_lightAt_1 at hF
  refine jv_iload hC 6 dX12_lightAt_11 rfl ?_
  refine jv_aload_n hC 0 dX12_lightAt_13 rfl ?_
  obtain ⟨g1, hF⟩ := hg_some hF
  obtain ⟨r4, M3, c2, hF⟩ := hb_some hF
  refine jv_callV hC (st := [.int v6]) [] (k_Md_panes c2) mm_Md_panes mi_Md_panes ml_X12_269 dX12_lightAt_14 g1 rfl (Nat.le_of_ble_eq_true rfl) rfl rfl (Nat.le_of_ble_eq_true rfl) ?_
  refine jv_nf 17 [.int r4, .int v6] rfl rfl ?_
  refine jv_icmp_ge hC 63 dX12_lightAt_17 (by decide) (fun h5 => ?_) (fun h5 => ?_)
  · have hF := hi_pos h5 hF
    refine jv_iload_n hC 2 dX12_lightAt_63 rfl ?_
    refine jv_if_ne hC 71 dX12_lightAt_64 (by decide) (fun h6 => ?_) (fun h6 => ?_)
    · have hF := hi_neg h6 hF
      refine jv_iload_n hC 2 dX12_lightAt_71 rfl ?_
      refine jv_iconst hC dX12_lightAt_72 c32_1 ?_
      refine jv_icmp_ne hC 81 dX12_lightAt_73 (by decide) (fun h7 => ?_) (fun h7 => ?_)
      · have hF := hi_neg h7 hF
        refine jv_iload hC 5 dX12_lightAt_81 rfl ?_
        obtain ⟨rfl, rfl⟩ := hr_some hF
        exact jv_iret hC dX12_lightAt_83
      · have hF := hi_pos h7 hF
        refine jv_iload hC 4 dX12_lightAt_76 rfl ?_
        refine jv_goto hC 83 dX12_lightAt_78 (by decide) ?_
        obtain ⟨rfl, rfl⟩ := hr_some hF
        exact jv_iret hC dX12_lightAt_83
    · have hF := hi_pos h6 hF
      refine jv_iload_n hC 3 dX12_lightAt_67 rfl ?_
      refine jv_goto hC 83 dX12_lightAt_68 (by decide) ?_
      obtain ⟨rfl, rfl⟩ := hr_some hF
      exact jv_iret hC dX12_lightAt_83
  · have hF := hi_neg h5 hF
    refine jv_aload_n hC 0 dX12_lightAt_20 rfl ?_
    obtain ⟨g8, hF⟩ := hg_some hF
    refine jv_getR hC fl_X12_106 dX12_lightAt_21 rfl g1 g8 ?_
    refine jv_iload hC 6 dX12_lightAt_24 rfl ?_
    obtain ⟨g9, hF⟩ := hg_some hF
    obtain ⟨n10, sn10, in10⟩ := hm_ib_ok g9
    refine jv_iaload hC dX12_lightAt_26 sn10 in10 ?_
    refine jv_iload_n hC 1 dX12_lightAt_27 rfl ?_
    refine jv_icmp_ne hC 57 dX12_lightAt_28 (by decide) (fun h11 => ?_) (fun h11 => ?_)
    · have hF := hi_neg h11 hF
      refine jv_iinc hC 6 [(6, .int (v6 + (1 : Int32))), (0, .ref v0), (1, .int v1), (2, .int v2), (3, .int v3), (4, .int v4), (5, .int v5)] dX12_lightAt_57 rfl c32_1 (by decide) rfl ?_
      refine jv_goto hC 11 dX12_lightAt_60 (by decide) ?_
      refine jv_sub [1, 2, 3, 4, 5, 6, 0] (ls' := [(0, .ref v0), (1, .int v1), (2, .int v2), (3, .int v3), (4, .int v4), (5, .int v5), (6, .int (v6 + (1 : Int32)))]) rfl ?_
      exact jv_pc 11 rfl (hk11 _ _ _ _ _ _ _ _ _ _ hF)
    · have hF := hi_pos h11 hF
      refine jv_iload_n hC 3 dX12_lightAt_31 rfl ?_
      refine jv_iconst hC dX12_lightAt_32 c32_1 ?_
      refine jv_aload_n hC 0 dX12_lightAt_33 rfl ?_
      refine jv_iload hC 6 dX12_lightAt_34 rfl ?_
      obtain ⟨r14, M13, c12, hF⟩ := hb_some hF
      refine jv_callV hC (st := [.int (1 : Int32), .int v3]) [.int v6] (k_Md_ownerOf c12) mm_Md_ownerOf mi_Md_ownerOf ml_X12_289 dX12_lightAt_36 g1 rfl (Nat.le_of_ble_eq_true rfl) rfl rfl (Nat.le_of_ble_eq_true rfl) ?_
      refine jv_nf 39 [.int r14, .int (1 : Int32), .int v3] rfl rfl ?_
      refine jv_ishl hC dX12_lightAt_39 ?_
      refine jv_ior hC dX12_lightAt_40 ?_
      obtain ⟨x15, e16, hF⟩ := hl_some hF
      refine jv_topI e16 ?_
      refine jv_istore_n hC [(3, .int x15), (0, .ref v0), (1, .int v1), (2, .int v2), (4, .int v4), (5, .int v5), (6, .int v6)] dX12_lightAt_41 (by decide) rfl ?_
      refine jv_iload hC 4 dX12_lightAt_42 rfl ?_
      refine jv_aload_n hC 1 dX12_lightAt_44 rfl ?_
      refine jv_iload hC 6 dX12_lightAt_45 rfl ?_
      refine jv_iconst hC dX12_lightAt_47 c32_3 ?_
      refine jv_pc 48 rfl ?_
      obtain ⟨r19, M18, c17, hF⟩ := hb_some hF
      refine jv_callV hC (st := [.int v4]) [.int v6, .int (3 : Int32)] (k_Md_paneOf c17) mm_Md_paneOf mi_Md_paneOf ml_X12_292 dX12_lightAt_48 g1 rfl (Nat.le_of_ble_eq_true rfl) rfl rfl (Nat.le_of_ble_eq_true rfl) ?_
      refine jv_nf 51 [.int r19, .int v4] rfl rfl ?_
      refine jv_ior hC dX12_lightAt_51 ?_
      obtain ⟨x20, e21, hF⟩ := hl_some hF
      refine jv_topI e21 ?_
      refine jv_istore hC [(4, .int x20), (3, .int x15), (0, .ref v0), (1, .int v1), (2, .int v2), (5, .int v5), (6, .int v6)] dX12_lightAt_52 (by decide) rfl ?_
      refine jv_iinc hC 5 [(5, .int (v5 + (1 : Int32))), (4, .int x20), (3, .int x15), (0, .ref v0), (1, .int v1), (2, .int v2), (6, .int v6)] dX12_lightAt_54 rfl c32_1 (by decide) rfl ?_
      refine jv_iinc hC 6 [(6, .int (v6 + (1 : Int32))), (5, .int (v5 + (1 : Int32))), (4, .int x20), (3, .int x15), (0, .ref v0), (1, .int v1), (2, .int v2)] dX12_lightAt_57 rfl c32_1 (by decide) rfl ?_
      refine jv_goto hC 11 dX12_lightAt_60 (by decide) ?_
      refine jv_sub [4, 5, 6, 3, 2, 1, 0] (ls' := [(0, .ref v0), (1, .int v1), (2, .int v2), (3, .int x15), (4, .int x20), (5, .int (v5 + (1 : Int32))), (6, .int (v6 + (1 : Int32)))]) rfl ?_
      exact jv_pc 11 rfl (hk11 _ _ _ _ _ _ _ _ _ _ hF)
theorem s_Md_lightAt_1 {X : hm_X} {n : Nat} {S : hm_S} (hC : hm_C X RX12 cX12_lightAt 7 (some .int) 2 n S) : ∀ (q : Nat) (v0 : Nat) (v1 : Int32) (v2 : Int32) (v3 : Int32) (v4 : Int32) (v5 : Int32) (v6 : Int32) (M : hm_M) (r : Int32) (M' : hm_M), f_Md_lightAt_1 S  q v0 v1 v2 v3 v4 v5 v6 M = some (r, M') → hm_U X 11 [(0, .ref v0), (1, .int v1), (2, .int v2), (3, .int v3), (4, .int v4), (5, .int v5), (6, .int v6)] [] M (hm_Q X (some (.int r)) M') := by
  intro q
  induction q with
  | zero => intro v0 v1 v2 v3 v4 v5 v6 M r M' hF; cases hF
  | succ q ih => intro v0 v1 v2 v3 v4 v5 v6 M r M' hF; exact t_Md_lightAt_1 hC ih hF
set_option maxRecDepth 100000 in
set_option maxHeartbeats 4000000 in
theorem k_Md_lightAt {n : Nat} {S : hm_S} {v0 : Nat} {v1 : Int32} {v2 : Int32} {M : hm_M} {r : Int32} {M' : hm_M} (hF : f_Md_lightAt S v0 v1 v2 M = some (r, M')) : hm_KM yX12_lightAt cX12_lightAt 7 (some .int) 2 n S [.ref v0, .int v1, .int v2] M (some (.int r)) M' := by
  refine hm_enter mm_Md_lightAt (Nat.le_of_ble_eq_true rfl) (fun X hC => ?_)
  show hm_U X 0 [(0, .ref v0), (1, .int v1), (2, .int v2)] [] M _
  unfold f_Md_lightAt at hF
  refine jv_iconst hC dX12_lightAt_0 c32_0 ?_
  refine jv_istore_n hC [(3, .int (0 : Int32)), (0, .ref v0), (1, .int v1), (2, .int v2)] dX12_lightAt_1 (by decide) rfl ?_
  refine jv_iconst hC dX12_lightAt_2 c32_0 ?_
  refine jv_istore hC [(4, .int (0 : Int32)), (3, .int (0 : Int32)), (0, .ref v0), (1, .int v1), (2, .int v2)] dX12_lightAt_3 (by decide) rfl ?_
  refine jv_iconst hC dX12_lightAt_5 c32_0 ?_
  refine jv_istore hC [(5, .int (0 : Int32)), (4, .int (0 : Int32)), (3, .int (0 : Int32)), (0, .ref v0), (1, .int v1), (2, .int v2)] dX12_lightAt_6 (by decide) rfl ?_
  refine jv_iconst hC dX12_lightAt_8 c32_0 ?_
  refine jv_pc 9 rfl ?_
  refine jv_istore hC [(6, .int (0 : Int32)), (5, .int (0 : Int32)), (4, .int (0 : Int32)), (3, .int (0 : Int32)), (0, .ref v0), (1, .int v1), (2, .int v2)] dX12_lightAt_9 (by decide) rfl ?_
  refine jv_sub [4, 5, 6, 3, 2, 1, 0] (ls' := [(0, .ref v0), (1, .int v1), (2, .int v2), (3, .int (0 : Int32)), (4, .int (0 : Int32)), (5, .int (0 : Int32)), (6, .int (0 : Int32))]) rfl ?_
  exact jv_pc 11 rfl (s_Md_lightAt_1 hC hN _ _ _ _ _ _ _ _ _ _ hF)
set_option maxRecDepth 100000 in
set_option maxHeartbeats 4000000 in
theorem k_Md_rentAt {n : Nat} {S : hm_S} {v0 : Nat} {v1 : Int32} {v2 : Int32} {v3 : Int32} {v4 : Int32} {M : hm_M} {r : Int32} {M' : hm_M} (hF : f_Md_rentAt S v0 v1 v2 v3 v4 M = some (r, M')) : hm_KM yX12_rentAt cX12_rentAt 6 (some .int) 3 n S [.ref v0, .int v1, .int v2, .int v3, .int v4] M (some (.int r)) M' := by
  refine hm_enter mm_Md_rentAt (Nat.le_of_ble_eq_true rfl) (fun X hC => ?_)
  show hm_U X 0 [(0, .ref v0), (1, .int v1), (2, .int v2), (3, .int v3), (4, .int v4)] [] M _
  unfold f_Md_rentAt at hF
  refine jv_aload_n hC 0 dX12_rentAt_0 rfl ?_
  obtain ⟨g1, hF⟩ := hg_some hF
  obtain ⟨g2, hF⟩ := hg_some hF
  refine jv_getR hC fl_X12_81 dX12_rentAt_1 rfl g1 g2 ?_
  refine jv_bipush hC dX12_rentAt_4 c8_68 ?_
  obtain ⟨g3, hF⟩ := hg_some hF
  obtain ⟨n4, sn4, in4⟩ := hm_ib_ok g3
  refine jv_iaload hC dX12_rentAt_6 sn4 in4 ?_
  refine jv_if_ge hC 12 dX12_rentAt_7 (by decide) (fun h5 => ?_) (fun h5 => ?_)
  · have hF := hi_pos h5 hF
    refine jv_aload_n hC 0 dX12_rentAt_12 rfl ?_
    obtain ⟨g6, hF⟩ := hg_some hF
    refine jv_getR hC fl_X12_93 dX12_rentAt_13 rfl g1 g6 ?_
    refine jv_iconst hC dX12_rentAt_16 c32_0 ?_
    refine jv_iload_n hC 1 dX12_rentAt_17 rfl ?_
    obtain ⟨g7, hF⟩ := hg_some hF
    obtain ⟨n8, sn8, in8⟩ := hm_ib_ok g7
    refine jv_iastore hC dX12_rentAt_18 sn8 in8 ?_
    obtain ⟨M9, e10, hF⟩ := hl_some hF
    refine jv_mem e10 ?_
    refine jv_aload_n hC 0 dX12_rentAt_19 rfl ?_
    obtain ⟨g11, hF⟩ := hg_some hF
    refine jv_getR hC fl_X12_93 dX12_rentAt_20 rfl g1 g11 ?_
    refine jv_pc 23 rfl ?_
    refine jv_iconst hC dX12_rentAt_23 c32_1 ?_
    refine jv_iload_n hC 2 dX12_rentAt_24 rfl ?_
    obtain ⟨g12, hF⟩ := hg_some hF
    obtain ⟨n13, sn13, in13⟩ := hm_ib_ok g12
    refine jv_iastore hC dX12_rentAt_25 sn13 in13 ?_
    obtain ⟨M14, e15, hF⟩ := hl_some hF
    refine jv_mem e15 ?_
    refine jv_aload_n hC 0 dX12_rentAt_26 rfl ?_
    obtain ⟨g16, hF⟩ := hg_some hF
    refine jv_getR hC fl_X12_93 dX12_rentAt_27 rfl g1 g16 ?_
    refine jv_iconst hC dX12_rentAt_30 c32_4 ?_
    refine jv_iload_n hC 3 dX12_rentAt_31 rfl ?_
    refine jv_bipush hC dX12_rentAt_32 c8_8 ?_
    refine jv_pc 34 rfl ?_
    refine jv_irem hC dX12_rentAt_34 (by decide) ?_
    obtain ⟨g17, hF⟩ := hg_some hF
    obtain ⟨n18, sn18, in18⟩ := hm_ib_ok g17
    refine jv_iastore hC dX12_rentAt_35 sn18 in18 ?_
    obtain ⟨M19, e20, hF⟩ := hl_some hF
    refine jv_mem e20 ?_
    refine jv_aload_n hC 0 dX12_rentAt_36 rfl ?_
    obtain ⟨g21, hF⟩ := hg_some hF
    refine jv_getR hC fl_X12_93 dX12_rentAt_37 rfl g1 g21 ?_
    refine jv_iconst hC dX12_rentAt_40 c32_5 ?_
    refine jv_iload_n hC 3 dX12_rentAt_41 rfl ?_
    refine jv_bipush hC dX12_rentAt_42 c8_8 ?_
    refine jv_idiv hC dX12_rentAt_44 (by decide) ?_
    refine jv_pc 45 rfl ?_
    obtain ⟨g22, hF⟩ := hg_some hF
    obtain ⟨n23, sn23, in23⟩ := hm_ib_ok g22
    refine jv_iastore hC dX12_rentAt_45 sn23 in23 ?_
    obtain ⟨M24, e25, hF⟩ := hl_some hF
    refine jv_mem e25 ?_
    refine jv_aload_n hC 0 dX12_rentAt_46 rfl ?_
    obtain ⟨g26, hF⟩ := hg_some hF
    refine jv_getR hC fl_X12_93 dX12_rentAt_47 rfl g1 g26 ?_
    refine jv_bipush hC dX12_rentAt_50 c8_6 ?_
    refine jv_iload hC 4 dX12_rentAt_52 rfl ?_
    obtain ⟨g27, hF⟩ := hg_some hF
    obtain ⟨n28, sn28, in28⟩ := hm_ib_ok g27
    refine jv_iastore hC dX12_rentAt_54 sn28 in28 ?_
    obtain ⟨M29, e30, hF⟩ := hl_some hF
    refine jv_mem e30 ?_
    refine jv_aload_n hC 0 dX12_rentAt_55 rfl ?_
    refine jv_aload_n hC 0 dX12_rentAt_56 rfl ?_
    refine jv_pc 57 rfl ?_
    obtain ⟨g31, hF⟩ := hg_some hF
    refine jv_getR hC fl_X12_81 dX12_rentAt_57 rfl g1 g31 ?_
    refine jv_bipush hC dX12_rentAt_60 c8_68 ?_
    obtain ⟨g32, hF⟩ := hg_some hF
    obtain ⟨n33, sn33, in33⟩ := hm_ib_ok g32
    refine jv_iaload hC dX12_rentAt_62 sn33 in33 ?_
    obtain ⟨r36, M35, c34, hF⟩ := hb_some hF
    refine jv_callV hC (st := []) [.int (M29.1 (M29.2.2 v0 10) (68 : Int32).toNatClampNeg)] (k_Md_worthAt c34) mm_Md_worthAt mi_Md_worthAt ml_X12_276 dX12_rentAt_63 g1 rfl (Nat.le_of_ble_eq_true rfl) rfl rfl (Nat.le_of_ble_eq_true rfl) ?_
    refine jv_nf 66 [.int r36] rfl rfl ?_
    refine jv_istore hC [(5, .int r36), (0, .ref v0), (1, .int v1), (2, .int v2), (3, .int v3), (4, .int v4)] dX12_rentAt_66 (by decide) rfl ?_
    refine jv_iload hC 0 dX12_rentAt_68 rfl ?_
    refine jv_if_ge hC 77 dX12_rentAt_70 (by decide) (fun h37 => ?_) (fun h37 => ?_)
    · have hF := hi_pos h37 hF
      refine jv_iload hC 0 dX12_rentAt_77 rfl ?_
      refine jv_sipush hC dX12_rentAt_79 c16_999 ?_
      refine jv_icmp_le hC 91 dX12_rentAt_82 (by decide) (fun h38 => ?_) (fun h38 => ?_)
      · have hF := hi_pos h38 hF
        refine jv_iload hC 0 dX12_rentAt_91 rfl ?_
        obtain ⟨rfl, rfl⟩ := hr_some hF
        exact jv_iret hC dX12_rentAt_93
      · have hF := hi_neg h38 hF
        refine jv_sipush hC dX12_rentAt_85 c16_999 ?_
        refine jv_goto hC 93 dX12_rentAt_88 (by decide) ?_
        obtain ⟨rfl, rfl⟩ := hr_some hF
        exact jv_iret hC dX12_rentAt_93
    · have hF := hi_neg h37 hF
      refine jv_iconst hC dX12_rentAt_73 c32_0 ?_
      refine jv_goto hC 93 dX12_rentAt_74 (by decide) ?_
      obtain ⟨rfl, rfl⟩ := hr_some hF
      exact jv_iret hC dX12_rentAt_93
  · have hF := hi_neg h5 hF
    refine jv_iconst hC dX12_rentAt_10 c32_1 ?_
    obtain ⟨rfl, rfl⟩ := hr_some hF
    exact jv_iret hC dX12_rentAt_11
set_option maxRecDepth 100000 in
set_option maxHeartbeats 4000000 in
theorem t_Md_addsYields_1 {X : hm_X} {n : Nat} {S : hm_S} (hC : hm_C X RX12 cX12_addsYields 5 none 5 n S) {k8 : Nat → Int32 → Int32 → Int32 → hm_M → Option hm_M} (hk8 : ∀ (v0 : Nat) (v1 : Int32) (v2 : Int32) (v3 : Int32)  (M : hm_M) (M' : hm_M), k8 v0 v1 v2 v3 M = some M' → hm_U X 8 [(0, .ref v0), (1, .int v1), (2, .int v2), (3, .int v3)] [] M (hm_Q X none M')) {v0 : Nat} {v1 : Int32} {v2 : Int32} {v3 : Int32} {M : hm_M} {M' : hm_M} (hF : b_Md_addsYields_1 S k8 v0 v1 v2 v3 M = some M') : hm_U X 8 [(0, .ref v0), (1, .int v1), (2, .int v2), (3, .int v3)] [] M (hm_Q X none M') := by
  unfold b_Md_addsYields_1 at hF
  refine jv_iload_n hC 3 dX12_addsYields_8 rfl ?_
  refine jv_aload_n hC 0 dX12_addsYields_9 rfl ?_
  obtain ⟨g1, hF⟩ := hg_some hF
  obtain ⟨r4, M3, c2, hF⟩ := hb_some hF
  refine jv_callV hC (st := [.int v3]) [] (k_Md_panes c2) mm_Md_panes mi_Md_panes ml_X12_269 dX12_addsYields_10 g1 rfl (Nat.le_of_ble_eq_true rfl) rfl rfl (Nat.le_of_ble_eq_true rfl) ?_
  refine jv_nf 13 [.int r4, .int v3] rfl rfl ?_
  refine jv_icmp_ge hC 70 dX12_addsYields_13 (by decide) (fun h5 => ?_) (fun h5 => ?_)
  · have hF := hi_pos h5 hF
    obtain rfl := hr_somev hF
    exact jv_vret hC dX12_addsYields_70
  · have hF := hi_neg h5 hF
    refine jv_aload_n hC 0 dX12_addsYields_16 rfl ?_
    obtain ⟨g6, hF⟩ := hg_some hF
    refine jv_getR hC fl_X12_106 dX12_addsYields_17 rfl g1 g6 ?_
    refine jv_iload_n hC 3 dX12_addsYields_20 rfl ?_
    obtain ⟨g7, hF⟩ := hg_some hF
    obtain ⟨n8, sn8, in8⟩ := hm_ib_ok g7
    refine jv_iaload hC dX12_addsYields_21 sn8 in8 ?_
    refine jv_if_lt hC 64 dX12_addsYields_22 (by decide) (fun h9 => ?_) (fun h9 => ?_)
    · have hF := hi_pos h9 hF
      refine jv_iinc hC 3 [(3, .int (v3 + (1 : Int32))), (0, .ref v0), (1, .int v1), (2, .int v2)] dX12_addsYields_64 rfl c32_1 (by decide) rfl ?_
      refine jv_goto hC 8 dX12_addsYields_67 (by decide) ?_
      refine jv_sub [1, 2, 3, 0] (ls' := [(0, .ref v0), (1, .int v1), (2, .int v2), (3, .int (v3 + (1 : Int32)))]) rfl ?_
      exact jv_pc 8 rfl (hk8 _ _ _ _ _ _ hF)
    · have hF := hi_neg h9 hF
      refine jv_aload_n hC 0 dX12_addsYields_25 rfl ?_
      refine jv_aload_n hC 0 dX12_addsYields_26 rfl ?_
      refine jv_getR hC fl_X12_106 dX12_addsYields_27 rfl g1 g6 ?_
      refine jv_iload_n hC 3 dX12_addsYields_30 rfl ?_
      refine jv_iaload hC dX12_addsYields_31 sn8 in8 ?_
      refine jv_iconst hC dX12_addsYields_32 c32_2 ?_
      obtain ⟨r12, M11, c10, hF⟩ := hb_some hF
      refine jv_callV hC (st := []) [.int (M3.1 (M3.2.2 v0 24) v3.toNatClampNeg), .int (2 : Int32)] (k_Md_lightAt c10) mm_Md_lightAt mi_Md_lightAt ml_X12_301 dX12_addsYields_33 g1 rfl (Nat.le_of_ble_eq_true rfl) rfl rfl (Nat.le_of_ble_eq_true rfl) ?_
      refine jv_nf 36 [.int r12] rfl rfl ?_
      refine jv_istore hC [(4, .int r12), (0, .ref v0), (1, .int v1), (2, .int v2), (3, .int v3)] dX12_addsYields_36 (by decide) rfl ?_
      refine jv_aload_n hC 1 dX12_addsYields_38 rfl ?_
      obtain ⟨g13, hF⟩ := hg_some hF
      refine jv_getR hC fl_X12_109 dX12_addsYields_39 rfl g1 g13 ?_
      refine jv_iload_n hC 4 dX12_addsYields_42 rfl ?_
      refine jv_dup2 hC dX12_addsYields_43 rfl rfl ?_
      obtain ⟨g14, hF⟩ := hg_some hF
      obtain ⟨n15, sn15, in15⟩ := hm_ib_ok g14
      refine jv_iaload hC dX12_addsYields_44 sn15 in15 ?_
      refine jv_aload_n hC 1 dX12_addsYields_45 rfl ?_
      refine jv_pc 46 rfl ?_
      refine jv_iload_n hC 2 dX12_addsYields_46 rfl ?_
      refine jv_iload_n hC 3 dX12_addsYields_47 rfl ?_
      refine jv_aload_n hC 1 dX12_addsYields_48 rfl ?_
      obtain ⟨g16, hF⟩ := hg_some hF
      refine jv_getR hC fl_X12_106 dX12_addsYields_49 rfl g1 g16 ?_
      refine jv_iload_n hC 4 dX12_addsYields_52 rfl ?_
      obtain ⟨g17, hF⟩ := hg_some hF
      obtain ⟨n18, sn18, in18⟩ := hm_ib_ok g17
      refine jv_iaload hC dX12_addsYields_53 sn18 in18 ?_
      refine jv_iload hC 0 dX12_addsYields_54 rfl ?_
      obtain ⟨r21, M20, c19, hF⟩ := hb_some hF
      refine jv_callV hC (st := [.int (M11.1 (M11.2.2 v0 25) v3.toNatClampNeg), .int v3, .ref (M11.2.2 v0 25)]) [.int v1, .int v2, .int (M11.1 (M11.2.2 v0 24) v3.toNatClampNeg), .int r12] (k_Md_rentAt c19) mm_Md_rentAt mi_Md_rentAt ml_X12_304 dX12_addsYields_56 g1 rfl (Nat.le_of_ble_eq_true rfl) rfl rfl (Nat.le_of_ble_eq_true rfl) ?_
      refine jv_nf 59 [.int r21, .int (M11.1 (M11.2.2 v0 25) v3.toNatClampNeg), .int v3, .ref (M11.2.2 v0 25)] rfl rfl ?_
      refine jv_iload hC 0 dX12_addsYields_59 rfl ?_
      obtain ⟨g22, hF⟩ := hg_some hF
      refine jv_idiv hC dX12_addsYields_61 g22 ?_
      refine jv_iadd hC dX12_addsYields_62 ?_
      refine jv_iastore hC dX12_addsYields_63 sn15 in15 ?_
      obtain ⟨M23, e24, hF⟩ := hl_some hF
      refine jv_mem e24 ?_
      refine jv_iinc hC 4 [(3, .int (v3 + (1 : Int32))), (4, .int r12), (0, .ref v0), (1, .int v1), (2, .int v2)] dX12_addsYields_64 rfl c32_1 (by decide) rfl ?_
      refine jv_goto hC 8 dX12_addsYields_67 (by decide) ?_
      refine jv_sub [2, 3, 4, 0] (ls' := [(0, .ref v0), (1, .int v1), (2, .int v2), (3, .int (v3 + (1 : Int32)))]) rfl ?_
      exact jv_pc 8 rfl (hk8 _ _ _ _ _ _ hF)
theorem s_Md_addsYields_1 {X : hm_X} {n : Nat} {S : hm_S} (hC : hm_C X RX12 cX12_addsYields 5 none 5 n S) : ∀ (q : Nat) (v0 : Nat) (v1 : Int32) (v2 : Int32) (v3 : Int32) (M : hm_M) (M' : hm_M), f_Md_addsYields_1 S  q v0 v1 v2 v3 M = some M' → hm_U X 8 [(0, .ref v0), (1, .int v1), (2, .int v2), (3, .int v3)] [] M (hm_Q X none M') := by
  intro q
  induction q with
  | zero => intro v0 v1 v2 v3 M M' hF; cases hF
  | succ q ih => intro v0 v1 v2 v3 M M' hF; exact t_Md_addsYields_1 hC ih hF
set_option maxRecDepth 100000 in
set_option maxHeartbeats 4000000 in
theorem k_Md_addsYields {n : Nat} {S : hm_S} {v0 : Nat} {v1 : Int32} {v2 : Int32} {M : hm_M} {M' : hm_M} (hF : f_Md_addsYields S v0 v1 v2 M = some M') : hm_KM yX12_addsYields cX12_addsYields 5 none 5 n S [.ref v0, .int v1, .int v2] M none M' := by
  refine hm_enter mm_Md_addsYields (Nat.le_of_ble_eq_true rfl) (fun X hC => ?_)
  show hm_U X 0 [(0, .ref v0), (1, .int v1), (2, .int v2)] [] M _
  unfold f_Md_addsYields at hF
  refine jv_aload_n hC 0 dX12_addsYields_0 rfl ?_
  refine jv_iload_n hC 1 dX12_addsYields_1 rfl ?_
  refine jv_iload_n hC 2 dX12_addsYields_2 rfl ?_
  obtain ⟨g1, hF⟩ := hg_some hF
  obtain ⟨M3, c2, hF⟩ := hv_some hF
  refine jv_callV hC (st := []) [.int v1, .int v2] (k_Md_findLight c2) mm_Md_findLight mi_Md_findLight ml_X12_298 dX12_addsYields_3 g1 rfl (Nat.le_of_ble_eq_true rfl) rfl rfl (Nat.le_of_ble_eq_true rfl) ?_
  refine jv_nf 6 [] rfl rfl ?_
  refine jv_iconst hC dX12_addsYields_6 c32_0 ?_
  refine jv_istore_n hC [(3, .int (0 : Int32)), (0, .ref v0), (1, .int v1), (2, .int v2)] dX12_addsYields_7 (by decide) rfl ?_
  refine jv_sub [1, 2, 3, 0] (ls' := [(0, .ref v0), (1, .int v1), (2, .int v2), (3, .int (0 : Int32))]) rfl ?_
  exact jv_pc 8 rfl (s_Md_addsYields_1 hC hN _ _ _ _ _ _ hF)
set_option maxRecDepth 100000 in
set_option maxHeartbeats 4000000 in
theorem k_Md_isSign {n : Nat} {S : hm_S} {v0 : Nat} {v1 : Int32} {M : hm_M} {r : Int32} {M' : hm_M} (hF : f_Md_isSign S v0 v1 M = some (r, M')) : hm_KM yX12_isSign cX12_isSign 2 (some .boolean) 1 n S [.ref v0, .int v1] M (some (.int r)) M' := by
  refine hm_enter mm_Md_isSign (Nat.le_of_ble_eq_true rfl) (fun X hC => ?_)
  show hm_U X 0 [(0, .ref v0), (1, .int v1)] [] M _
  unfold f_Md_isSign at hF
  refine jv_aload_n hC 0 dX12_isSign_0 rfl ?_
  obtain ⟨g1, hF⟩ := hg_some hF
  refine jv_getI hC fl_X12_159 dX12_isSign_1 rfl g1 ?_
  refine jv_if_ne hC 39 dX12_isSign_4 (by decide) (fun h2 => ?_) (fun h2 => ?_)
  · have hF := hi_neg h2 hF
    refine jv_iconst hC dX12_isSign_39 c32_0 ?_
    obtain ⟨rfl, rfl⟩ := hr_some hF
    exact jv_zret hC (by decide) dX12_isSign_40
  · have hF := hi_pos h2 hF
    refine jv_aload_n hC 0 dX12_isSign_7 rfl ?_
    obtain ⟨g3, hF⟩ := hg_some hF
    refine jv_getR hC fl_X12_24 dX12_isSign_8 rfl g1 g3 ?_
    refine jv_aload_n hC 0 dX12_isSign_11 rfl ?_
    refine jv_getI hC fl_X12_156 dX12_isSign_12 rfl g1 ?_
    obtain ⟨g4, hF⟩ := hg_some hF
    obtain ⟨n5, sn5, in5⟩ := hm_ib_ok g4
    refine jv_iaload hC dX12_isSign_15 sn5 in5 ?_
    refine jv_iconst hC dX12_isSign_16 c32_3 ?_
    refine jv_icmp_ne hC 39 dX12_isSign_17 (by decide) (fun h6 => ?_) (fun h6 => ?_)
    · have hF := hi_neg h6 hF
      refine jv_iconst hC dX12_isSign_39 c32_0 ?_
      obtain ⟨rfl, rfl⟩ := hr_some hF
      exact jv_zret hC (by decide) dX12_isSign_40
    · have hF := hi_pos h6 hF
      refine jv_aload_n hC 0 dX12_isSign_20 rfl ?_
      obtain ⟨g7, hF⟩ := hg_some hF
      refine jv_getR hC fl_X12_30 dX12_isSign_21 rfl g1 g7 ?_
      refine jv_aload_n hC 0 dX12_isSign_24 rfl ?_
      refine jv_getI hC fl_X12_156 dX12_isSign_25 rfl g1 ?_
      obtain ⟨g8, hF⟩ := hg_some hF
      obtain ⟨n9, sn9, in9⟩ := hm_ib_ok g8
      refine jv_laload hC dX12_isSign_28 sn9 in9 ?_
      refine jv_iload_n hC 1 dX12_isSign_29 rfl ?_
      refine jv_i2l hC dX12_isSign_30 ?_
      refine jv_pc 31 rfl ?_
      refine jv_lcmp hC dX12_isSign_31 ?_
      refine jv_if_ne hC 39 dX12_isSign_32 (by decide) (fun h10 => ?_) (fun h10 => ?_)
      · have hF := hi_neg h10 hF
        refine jv_iconst hC dX12_isSign_39 c32_0 ?_
        obtain ⟨rfl, rfl⟩ := hr_some hF
        exact jv_zret hC (by decide) dX12_isSign_40
      · have hF := hi_pos h10 hF
        refine jv_iconst hC dX12_isSign_35 c32_1 ?_
        refine jv_goto hC 40 dX12_isSign_36 (by decide) ?_
        obtain ⟨rfl, rfl⟩ := hr_some hF
        exact jv_zret hC (by decide) dX12_isSign_40
set_option maxRecDepth 100000 in
set_option maxHeartbeats 4000000 in
theorem s_Md_hasSign_1 {X : hm_X} {n : Nat} {S : hm_S} (hC : hm_C X RX12 cX12_hasSign 3 (some .boolean) 2 n S) {v2 : Int32} {s0 : Int32} {s1 : Int32} {s2 : Nat} {M : hm_M} {r : Int32} {M' : hm_M} (hF : b_Md_hasSign_1 S v2 s0 s1 s2 M = some (r, M')) : hm_U X 20 [(2, .int v2)] [.int s0, .int s1, .ref s2] M (hm_Q X (some (.int r)) M') := by
  unfold b_Md_hasSign_1 at hF
  refine jv_iadd hC dX12_hasSign_20 ?_
  obtain ⟨g1, hF⟩ := hg_some hF
  refine jv_putI hC fl_X12_156 dX12_hasSign_21 rfl rfl rfl g1 ?_
  obtain ⟨M2, e3, hF⟩ := hl_some hF
  refine jv_mem e3 ?_
  refine jv_iload_n hC 0 dX12_hasSign_24 rfl ?_
  obtain ⟨g4, hF⟩ := hg_some hF
  obtain ⟨rfl, rfl⟩ := hr_some hF
  exact jv_zret hC (hz_ok g4) dX12_hasSign_25
set_option maxRecDepth 100000 in
set_option maxHeartbeats 4000000 in
theorem k_Md_hasSign {n : Nat} {S : hm_S} {v0 : Nat} {v1 : Int32} {M : hm_M} {r : Int32} {M' : hm_M} (hF : f_Md_hasSign S v0 v1 M = some (r, M')) : hm_KM yX12_hasSign cX12_hasSign 3 (some .boolean) 2 n S [.ref v0, .int v1] M (some (.int r)) M' := by
  refine hm_enter mm_Md_hasSign (Nat.le_of_ble_eq_true rfl) (fun X hC => ?_)
  show hm_U X 0 [(0, .ref v0), (1, .int v1)] [] M _
  unfold f_Md_hasSign at hF
  refine jv_aload_n hC 0 dX12_hasSign_0 rfl ?_
  refine jv_iload_n hC 1 dX12_hasSign_1 rfl ?_
  obtain ⟨g1, hF⟩ := hg_some hF
  obtain ⟨r4, M3, c2, hF⟩ := hb_some hF
  refine jv_callV hC (st := []) [.int v1] (k_Md_isSign c2) mm_Md_isSign mi_Md_isSign ml_X12_162 dX12_hasSign_2 g1 rfl (Nat.le_of_ble_eq_true rfl) rfl rfl (Nat.le_of_ble_eq_true rfl) ?_
  refine jv_nf 5 [.int r4] rfl rfl ?_
  refine jv_istore_n hC [(2, .int r4), (0, .ref v0), (1, .int v1)] dX12_hasSign_5 (by decide) rfl ?_
  refine jv_aload_n hC 1 dX12_hasSign_6 rfl ?_
  refine jv_dup hC dX12_hasSign_7 rfl ?_
  refine jv_getI hC fl_X12_156 dX12_hasSign_8 rfl g1 ?_
  refine jv_iload_n hC 0 dX12_hasSign_11 rfl ?_
  refine jv_if_eq hC 19 dX12_hasSign_12 (by decide) (fun h5 => ?_) (fun h5 => ?_)
  · have hF := hi_pos h5 hF
    refine jv_iconst hC dX12_hasSign_19 c32_0 ?_
    refine jv_sub [0] (ls' := [(2, .int r4)]) rfl ?_
    exact jv_pc 20 rfl (s_Md_hasSign_1 hC hF)
  · have hF := hi_neg h5 hF
    refine jv_iconst hC dX12_hasSign_15 c32_1 ?_
    refine jv_goto hC 20 dX12_hasSign_16 (by decide) ?_
    refine jv_sub [0] (ls' := [(2, .int r4)]) rfl ?_
    exact jv_pc 20 rfl (s_Md_hasSign_1 hC hF)
set_option maxRecDepth 100000 in
set_option maxHeartbeats 4000000 in
theorem k_Md_emit {n : Nat} {S : hm_S} {v0 : Nat} {v1 : Int32} {v2 : Int32} {M : hm_M} {M' : hm_M} (hF : f_Md_emit S v0 v1 v2 M = some M') : hm_KM yX12_emit cX12_emit 3 none 1 n S [.ref v0, .int v1, .int v2] M none M' := by
  refine hm_enter mm_Md_emit (Nat.le_of_ble_eq_true rfl) (fun X hC => ?_)
  show hm_U X 0 [(0, .ref v0), (1, .int v1), (2, .int v2)] [] M _
  unfold f_Md_emit at hF
  refine jv_aload_n hC 0 dX12_emit_0 rfl ?_
  obtain ⟨g1, hF⟩ := hg_some hF
  obtain ⟨g2, hF⟩ := hg_some hF
  refine jv_getR hC fl_X12_84 dX12_emit_1 rfl g1 g2 ?_
  refine jv_sipush hC dX12_emit_4 c16_1100 ?_
  refine jv_aload_n hC 0 dX12_emit_7 rfl ?_
  refine jv_getI hC fl_X12_185 dX12_emit_8 rfl g1 ?_
  refine jv_iadd hC dX12_emit_11 ?_
  refine jv_iload_n hC 1 dX12_emit_12 rfl ?_
  refine jv_pc 13 rfl ?_
  obtain ⟨g3, hF⟩ := hg_some hF
  obtain ⟨n4, sn4, in4⟩ := hm_ib_ok g3
  refine jv_iastore hC dX12_emit_13 sn4 in4 ?_
  obtain ⟨M5, e6, hF⟩ := hl_some hF
  refine jv_mem e6 ?_
  refine jv_aload_n hC 0 dX12_emit_14 rfl ?_
  obtain ⟨g7, hF⟩ := hg_some hF
  refine jv_getR hC fl_X12_87 dX12_emit_15 rfl g1 g7 ?_
  refine jv_sipush hC dX12_emit_18 c16_1100 ?_
  refine jv_aload_n hC 0 dX12_emit_21 rfl ?_
  refine jv_getI hC fl_X12_185 dX12_emit_22 rfl g1 ?_
  refine jv_iadd hC dX12_emit_25 ?_
  refine jv_iload_n hC 2 dX12_emit_26 rfl ?_
  refine jv_pc 27 rfl ?_
  obtain ⟨g8, hF⟩ := hg_some hF
  obtain ⟨n9, sn9, in9⟩ := hm_ib_ok g8
  refine jv_iastore hC dX12_emit_27 sn9 in9 ?_
  obtain ⟨M10, e11, hF⟩ := hl_some hF
  refine jv_mem e11 ?_
  refine jv_aload_n hC 0 dX12_emit_28 rfl ?_
  refine jv_dup hC dX12_emit_29 rfl ?_
  refine jv_getI hC fl_X12_185 dX12_emit_30 rfl g1 ?_
  refine jv_iconst hC dX12_emit_33 c32_1 ?_
  refine jv_iadd hC dX12_emit_34 ?_
  refine jv_putI hC fl_X12_185 dX12_emit_35 rfl rfl rfl g1 ?_
  obtain ⟨M12, e13, hF⟩ := hl_some hF
  refine jv_mem e13 ?_
  obtain rfl := hr_somev hF
  exact jv_vret hC dX12_emit_38
set_option maxRecDepth 100000 in
set_option maxHeartbeats 4000000 in
theorem t_Md_products_1 {X : hm_X} {n : Nat} {S : hm_S} {rP : Nat → Int32 → hm_M → Option hm_M} {dP : Nat} (h50 : 50 ≤ dP) (hrP : ∀ (a0 : Nat) (a1 : Int32) (M : hm_M) (M' : hm_M), rP a0 a1 M = some M' → hm_KM yX12_takePart cX12_takePart 4 none dP n S [.ref a0, .int a1] M none M') (hC : hm_C X RX12 cX12_products 2 none (dP + 1) n S) {k5 : Nat → Int32 → hm_M → Option hm_M} (hk5 : ∀ (v0 : Nat) (v1 : Int32)  (M : hm_M) (M' : hm_M), k5 v0 v1 M = some M' → hm_U X 5 [(0, .ref v0), (1, .int v1)] [] M (hm_Q X none M')) {v0 : Nat} {v1 : Int32} {M : hm_M} {M' : hm_M} (hF : b_Md_products_1 S rP k5 v0 v1 M = some M') : hm_U X 5 [(0, .ref v0), (1, .int v1)] [] M (hm_Q X none M') := by
  unfold b_Md_products_1 at hF
  refine jv_aload_n hC 0 dX12_products_5 rfl ?_
  refine jv_bipush hC dX12_products_6 c8_42 ?_
  obtain ⟨g1, hF⟩ := hg_some hF
  obtain ⟨r4, M3, c2, hF⟩ := hb_some hF
  refine jv_callV hC (st := []) [.int (42 : Int32)] (k_Md_hasSign c2) mm_Md_hasSign mi_Md_hasSign ml_X12_247 dX12_products_8 g1 rfl (by omega) rfl rfl (Nat.le_of_ble_eq_true rfl) ?_
  refine jv_nf 11 [.int r4] rfl rfl ?_
  refine jv_if_eq hC 29 dX12_products_11 (by decide) (fun h5 => ?_) (fun h5 => ?_)
  · have hF := hi_pos h5 hF
    obtain rfl := hr_somev hF
    exact jv_vret hC dX12_products_29
  · have hF := hi_neg h5 hF
    refine jv_aload_n hC 0 dX12_products_14 rfl ?_
    refine jv_iload_n hC 1 dX12_products_15 rfl ?_
    obtain ⟨M7, c6, hF⟩ := hv_some hF
    refine jv_callV hC (st := []) [.int v1] (hrP _ _ _ _ c6) mm_Md_takePart mi_Md_takePart ml_X12_253 dX12_products_16 g1 rfl (by omega) rfl rfl (Nat.le_of_ble_eq_true rfl) ?_
    refine jv_nf 19 [] rfl rfl ?_
    refine jv_aload_n hC 0 dX12_products_19 rfl ?_
    refine jv_bipush hC dX12_products_20 c8_6 ?_
    refine jv_iconst hC dX12_products_22 c32_0 ?_
    obtain ⟨M9, c8, hF⟩ := hv_some hF
    refine jv_callV hC (st := []) [.int (6 : Int32), .int (0 : Int32)] (k_Md_emit c8) mm_Md_emit mi_Md_emit ml_X12_237 dX12_products_23 g1 rfl (by omega) rfl rfl (Nat.le_of_ble_eq_true rfl) ?_
    refine jv_nf 26 [] rfl rfl ?_
    refine jv_goto hC 5 dX12_products_26 (by decide) ?_
    exact jv_pc 5 rfl (hk5 _ _ _ _ hF)
theorem s_Md_products_1 {X : hm_X} {n : Nat} {S : hm_S} {rP : Nat → Int32 → hm_M → Option hm_M} {dP : Nat} (h50 : 50 ≤ dP) (hrP : ∀ (a0 : Nat) (a1 : Int32) (M : hm_M) (M' : hm_M), rP a0 a1 M = some M' → hm_KM yX12_takePart cX12_takePart 4 none dP n S [.ref a0, .int a1] M none M') (hC : hm_C X RX12 cX12_products 2 none (dP + 1) n S) : ∀ (q : Nat) (v0 : Nat) (v1 : Int32) (M : hm_M) (M' : hm_M), f_Md_products_1 S rP  q v0 v1 M = some M' → hm_U X 5 [(0, .ref v0), (1, .int v1)] [] M (hm_Q X none M') := by
  intro q
  induction q with
  | zero => intro v0 v1 M M' hF; cases hF
  | succ q ih => intro v0 v1 M M' hF; exact t_Md_products_1 h50 hrP hC ih hF
set_option maxRecDepth 100000 in
set_option maxHeartbeats 4000000 in
theorem k_Md_products {n : Nat} {S : hm_S} {rP : Nat → Int32 → hm_M → Option hm_M} {dP : Nat} (h50 : 50 ≤ dP) (hrP : ∀ (a0 : Nat) (a1 : Int32) (M : hm_M) (M' : hm_M), rP a0 a1 M = some M' → hm_KM yX12_takePart cX12_takePart 4 none dP n S [.ref a0, .int a1] M none M') {v0 : Nat} {v1 : Int32} {M : hm_M} {M' : hm_M} (hF : f_Md_products S rP v0 v1 M = some M') : hm_KM yX12_products cX12_products 2 none (dP + 1) n S [.ref v0, .int v1] M none M' := by
  refine hm_enter mm_Md_products (Nat.le_of_ble_eq_true rfl) (fun X hC => ?_)
  show hm_U X 0 [(0, .ref v0), (1, .int v1)] [] M _
  unfold f_Md_products at hF
  refine jv_aload_n hC 0 dX12_products_0 rfl ?_
  refine jv_iload_n hC 1 dX12_products_1 rfl ?_
  obtain ⟨g1, hF⟩ := hg_some hF
  obtain ⟨M3, c2, hF⟩ := hv_some hF
  refine jv_callV hC (st := []) [.int v1] (hrP _ _ _ _ c2) mm_Md_takePart mi_Md_takePart ml_X12_253 dX12_products_2 g1 rfl (by omega) rfl rfl (Nat.le_of_ble_eq_true rfl) ?_
  refine jv_nf 5 [] rfl rfl ?_
  exact jv_pc 5 rfl (s_Md_products_1 h50 hrP hC hN _ _ _ _ hF)
set_option maxRecDepth 100000 in
set_option maxHeartbeats 4000000 in
theorem s_Md_sums_3 {X : hm_X} {n : Nat} {S : hm_S} {rP : Nat → Int32 → hm_M → Option hm_M} {dP : Nat} (h50 : 50 ≤ dP) (hrP : ∀ (a0 : Nat) (a1 : Int32) (M : hm_M) (M' : hm_M), rP a0 a1 M = some M' → hm_KM yX12_takePart cX12_takePart 4 none dP n S [.ref a0, .int a1] M none M') (hC : hm_C X RX12 cX12_sums 3 none (dP + 2) n S) {k5 : Nat → Int32 → hm_M → Option hm_M} (hk5 : ∀ (v0 : Nat) (v1 : Int32)  (M : hm_M) (M' : hm_M), k5 v0 v1 M = some M' → hm_U X 5 [(0, .ref v0), (1, .int v1)] [] M (hm_Q X none M')) {v0 : Nat} {v1 : Int32} {s0 : Int32} {s1 : Nat} {M : hm_M} {M' : hm_M} (hF : b_Md_sums_3 S rP k5 v0 v1 s0 s1 M = some M') : hm_U X 55 [(0, .ref v0), (1, .int v1)] [.int s0, .ref s1] M (hm_Q X none M') := by
  unfold b_Md_sums_3 at hF
  refine jv_iconst hC dX12_sums_55 c32_0 ?_
  obtain ⟨g1, hF⟩ := hg_some hF
  obtain ⟨M3, c2, hF⟩ := hv_some hF
  refine jv_callV hC (st := []) [.int s0, .int (0 : Int32)] (k_Md_emit c2) mm_Md_emit mi_Md_emit ml_X12_237 dX12_sums_56 g1 rfl (by omega) rfl rfl (Nat.le_of_ble_eq_true rfl) ?_
  refine jv_nf 59 [] rfl rfl ?_
  refine jv_goto hC 5 dX12_sums_59 (by decide) ?_
  exact jv_pc 5 rfl (hk5 _ _ _ _ hF)
set_option maxRecDepth 100000 in
set_option maxHeartbeats 4000000 in
theorem s_Md_sums_2 {X : hm_X} {n : Nat} {S : hm_S} {rP : Nat → Int32 → hm_M → Option hm_M} {dP : Nat} (h50 : 50 ≤ dP) (hrP : ∀ (a0 : Nat) (a1 : Int32) (M : hm_M) (M' : hm_M), rP a0 a1 M = some M' → hm_KM yX12_takePart cX12_takePart 4 none dP n S [.ref a0, .int a1] M none M') (hC : hm_C X RX12 cX12_sums 3 none (dP + 2) n S) {k5 : Nat → Int32 → hm_M → Option hm_M} (hk5 : ∀ (v0 : Nat) (v1 : Int32)  (M : hm_M) (M' : hm_M), k5 v0 v1 M = some M' → hm_U X 5 [(0, .ref v0), (1, .int v1)] [] M (hm_Q X none M')) {v0 : Nat} {v1 : Int32} {M : hm_M} {M' : hm_M} (hF : b_Md_sums_2 S rP k5 v0 v1 M = some M') : hm_U X 23 [(0, .ref v0), (1, .int v1)] [] M (hm_Q X none M') := by
  unfold b_Md_sums_2 at hF
  refine jv_aload_n hC 0 dX12_sums_23 rfl ?_
  refine jv_bipush hC dX12_sums_24 c8_43 ?_
  obtain ⟨g1, hF⟩ := hg_some hF
  obtain ⟨r4, M3, c2, hF⟩ := hb_some hF
  refine jv_callV hC (st := []) [.int (43 : Int32)] (k_Md_isSign c2) mm_Md_isSign mi_Md_isSign ml_X12_162 dX12_sums_26 g1 rfl (by omega) rfl rfl (Nat.le_of_ble_eq_true rfl) ?_
  refine jv_nf 29 [.int r4] rfl rfl ?_
  refine jv_istore_n hC [(2, .int r4), (0, .ref v0), (1, .int v1)] dX12_sums_29 (by decide) rfl ?_
  refine jv_aload_n hC 1 dX12_sums_30 rfl ?_
  refine jv_dup hC dX12_sums_31 rfl ?_
  refine jv_getI hC fl_X12_156 dX12_sums_32 rfl g1 ?_
  refine jv_iconst hC dX12_sums_35 c32_1 ?_
  refine jv_iadd hC dX12_sums_36 ?_
  refine jv_putI hC fl_X12_156 dX12_sums_37 rfl rfl rfl g1 ?_
  obtain ⟨M5, e6, hF⟩ := hl_some hF
  refine jv_mem e6 ?_
  refine jv_pc 40 rfl ?_
  refine jv_aload_n hC 1 dX12_sums_40 rfl ?_
  refine jv_iload_n hC 2 dX12_sums_41 rfl ?_
  obtain ⟨M8, c7, hF⟩ := hv_some hF
  refine jv_callV hC (st := []) [.int v1] (k_Md_products h50 hrP c7) mm_Md_products mi_Md_products ml_X12_250 dX12_sums_42 g1 rfl (by omega) rfl rfl (Nat.le_of_ble_eq_true rfl) ?_
  refine jv_nf 45 [] rfl rfl ?_
  refine jv_aload_n hC 1 dX12_sums_45 rfl ?_
  refine jv_iload_n hC 0 dX12_sums_46 rfl ?_
  refine jv_if_eq hC 54 dX12_sums_47 (by decide) (fun h9 => ?_) (fun h9 => ?_)
  · have hF := hi_pos h9 hF
    refine jv_iconst hC dX12_sums_54 c32_5 ?_
    refine jv_sub [1, 2] (ls' := [(0, .ref v0), (1, .int v1)]) rfl ?_
    exact jv_pc 55 rfl (s_Md_sums_3 h50 hrP hC hk5 hF)
  · have hF := hi_neg h9 hF
    refine jv_iconst hC dX12_sums_50 c32_4 ?_
    refine jv_goto hC 55 dX12_sums_51 (by decide) ?_
    refine jv_sub [1, 2] (ls' := [(0, .ref v0), (1, .int v1)]) rfl ?_
    exact jv_pc 55 rfl (s_Md_sums_3 h50 hrP hC hk5 hF)
set_option maxRecDepth 100000 in
set_option maxHeartbeats 4000000 in
theorem t_Md_sums_1 {X : hm_X} {n : Nat} {S : hm_S} {rP : Nat → Int32 → hm_M → Option hm_M} {dP : Nat} (h50 : 50 ≤ dP) (hrP : ∀ (a0 : Nat) (a1 : Int32) (M : hm_M) (M' : hm_M), rP a0 a1 M = some M' → hm_KM yX12_takePart cX12_takePart 4 none dP n S [.ref a0, .int a1] M none M') (hC : hm_C X RX12 cX12_sums 3 none (dP + 2) n S) {k5 : Nat → Int32 → hm_M → Option hm_M} (hk5 : ∀ (v0 : Nat) (v1 : Int32)  (M : hm_M) (M' : hm_M), k5 v0 v1 M = some M' → hm_U X 5 [(0, .ref v0), (1, .int v1)] [] M (hm_Q X none M')) {v0 : Nat} {v1 : Int32} {M : hm_M} {M' : hm_M} (hF : b_Md_sums_1 S rP k5 v0 v1 M = some M') : hm_U X 5 [(0, .ref v0), (1, .int v1)] [] M (hm_Q X none M') := by
  unfold b_Md_sums_1 at hF
  refine jv_aload_n hC 0 dX12_sums_5 rfl ?_
  refine jv_bipush hC dX12_sums_6 c8_43 ?_
  obtain ⟨g1, hF⟩ := hg_some hF
  obtain ⟨r4, M3, c2, hF⟩ := hb_some hF
  refine jv_callV hC (st := []) [.int (43 : Int32)] (k_Md_isSign c2) mm_Md_isSign mi_Md_isSign ml_X12_162 dX12_sums_8 g1 rfl (by omega) rfl rfl (Nat.le_of_ble_eq_true rfl) ?_
  refine jv_nf 11 [.int r4] rfl rfl ?_
  refine jv_if_ne hC 23 dX12_sums_11 (by decide) (fun h5 => ?_) (fun h5 => ?_)
  · have hF := hi_neg h5 hF
    exact jv_pc 23 rfl (s_Md_sums_2 h50 hrP hC hk5 hF)
  · have hF := hi_pos h5 hF
    refine jv_aload_n hC 0 dX12_sums_14 rfl ?_
    refine jv_bipush hC dX12_sums_15 c8_45 ?_
    obtain ⟨r8, M7, c6, hF⟩ := hb_some hF
    refine jv_callV hC (st := []) [.int (45 : Int32)] (k_Md_isSign c6) mm_Md_isSign mi_Md_isSign ml_X12_162 dX12_sums_17 g1 rfl (by omega) rfl rfl (Nat.le_of_ble_eq_true rfl) ?_
    refine jv_nf 20 [.int r8] rfl rfl ?_
    refine jv_if_eq hC 62 dX12_sums_20 (by decide) (fun h9 => ?_) (fun h9 => ?_)
    · have hF := hi_pos h9 hF
      obtain rfl := hr_somev hF
      exact jv_vret hC dX12_sums_62
    · have hF := hi_neg h9 hF
      exact jv_pc 23 rfl (s_Md_sums_2 h50 hrP hC hk5 hF)
theorem s_Md_sums_1 {X : hm_X} {n : Nat} {S : hm_S} {rP : Nat → Int32 → hm_M → Option hm_M} {dP : Nat} (h50 : 50 ≤ dP) (hrP : ∀ (a0 : Nat) (a1 : Int32) (M : hm_M) (M' : hm_M), rP a0 a1 M = some M' → hm_KM yX12_takePart cX12_takePart 4 none dP n S [.ref a0, .int a1] M none M') (hC : hm_C X RX12 cX12_sums 3 none (dP + 2) n S) : ∀ (q : Nat) (v0 : Nat) (v1 : Int32) (M : hm_M) (M' : hm_M), f_Md_sums_1 S rP  q v0 v1 M = some M' → hm_U X 5 [(0, .ref v0), (1, .int v1)] [] M (hm_Q X none M') := by
  intro q
  induction q with
  | zero => intro v0 v1 M M' hF; cases hF
  | succ q ih => intro v0 v1 M M' hF; exact t_Md_sums_1 h50 hrP hC ih hF
set_option maxRecDepth 100000 in
set_option maxHeartbeats 4000000 in
theorem k_Md_sums {n : Nat} {S : hm_S} {rP : Nat → Int32 → hm_M → Option hm_M} {dP : Nat} (h50 : 50 ≤ dP) (hrP : ∀ (a0 : Nat) (a1 : Int32) (M : hm_M) (M' : hm_M), rP a0 a1 M = some M' → hm_KM yX12_takePart cX12_takePart 4 none dP n S [.ref a0, .int a1] M none M') {v0 : Nat} {v1 : Int32} {M : hm_M} {M' : hm_M} (hF : f_Md_sums S rP v0 v1 M = some M') : hm_KM yX12_sums cX12_sums 3 none (dP + 2) n S [.ref v0, .int v1] M none M' := by
  refine hm_enter mm_Md_sums (Nat.le_of_ble_eq_true rfl) (fun X hC => ?_)
  show hm_U X 0 [(0, .ref v0), (1, .int v1)] [] M _
  unfold f_Md_sums at hF
  refine jv_aload_n hC 0 dX12_sums_0 rfl ?_
  refine jv_iload_n hC 1 dX12_sums_1 rfl ?_
  obtain ⟨g1, hF⟩ := hg_some hF
  obtain ⟨M3, c2, hF⟩ := hv_some hF
  refine jv_callV hC (st := []) [.int v1] (k_Md_products h50 hrP c2) mm_Md_products mi_Md_products ml_X12_250 dX12_sums_2 g1 rfl (by omega) rfl rfl (Nat.le_of_ble_eq_true rfl) ?_
  refine jv_nf 5 [] rfl rfl ?_
  exact jv_pc 5 rfl (s_Md_sums_1 h50 hrP hC hN _ _ _ _ hF)
set_option maxRecDepth 100000 in
set_option maxHeartbeats 4000000 in
theorem s_Md_test_2 {X : hm_X} {n : Nat} {S : hm_S} {rP : Nat → Int32 → hm_M → Option hm_M} {dP : Nat} (h50 : 50 ≤ dP) (hrP : ∀ (a0 : Nat) (a1 : Int32) (M : hm_M) (M' : hm_M), rP a0 a1 M = some M' → hm_KM yX12_takePart cX12_takePart 4 none dP n S [.ref a0, .int a1] M none M') (hC : hm_C X RX12 cX12_test 3 none (dP + 3) n S) {s0 : Int32} {s1 : Nat} {M : hm_M} {M' : hm_M} (hF : b_Md_test_2 S rP s0 s1 M = some M') : hm_U X 47 [] [.int s0, .ref s1] M (hm_Q X none M') := by
  unfold b_Md_test_2 at hF
  refine jv_iconst hC dX12_test_47 c32_0 ?_
  obtain ⟨g1, hF⟩ := hg_some hF
  obtain ⟨M3, c2, hF⟩ := hv_some hF
  refine jv_callV hC (st := []) [.int s0, .int (0 : Int32)] (k_Md_emit c2) mm_Md_emit mi_Md_emit ml_X12_237 dX12_test_48 g1 rfl (by omega) rfl rfl (Nat.le_of_ble_eq_true rfl) ?_
  refine jv_nf 51 [] rfl rfl ?_
  obtain rfl := hr_somev hF
  exact jv_vret hC dX12_test_51
set_option maxRecDepth 100000 in
set_option maxHeartbeats 4000000 in
theorem s_Md_test_1 {X : hm_X} {n : Nat} {S : hm_S} {rP : Nat → Int32 → hm_M → Option hm_M} {dP : Nat} (h50 : 50 ≤ dP) (hrP : ∀ (a0 : Nat) (a1 : Int32) (M : hm_M) (M' : hm_M), rP a0 a1 M = some M' → hm_KM yX12_takePart cX12_takePart 4 none dP n S [.ref a0, .int a1] M none M') (hC : hm_C X RX12 cX12_test 3 none (dP + 3) n S) {v0 : Nat} {v1 : Int32} {v2 : Int32} {M : hm_M} {M' : hm_M} (hF : b_Md_test_1 S rP v0 v1 v2 M = some M') : hm_U X 30 [(0, .ref v0), (1, .int v1), (2, .int v2)] [] M (hm_Q X none M') := by
  unfold b_Md_test_1 at hF
  refine jv_aload_n hC 0 dX12_test_30 rfl ?_
  refine jv_iload_n hC 1 dX12_test_31 rfl ?_
  obtain ⟨g1, hF⟩ := hg_some hF
  obtain ⟨M3, c2, hF⟩ := hv_some hF
  refine jv_callV hC (st := []) [.int v1] (k_Md_sums h50 hrP c2) mm_Md_sums mi_Md_sums ml_X12_244 dX12_test_32 g1 rfl (by omega) rfl rfl (Nat.le_of_ble_eq_true rfl) ?_
  refine jv_nf 35 [] rfl rfl ?_
  refine jv_aload_n hC 0 dX12_test_35 rfl ?_
  refine jv_iload_n hC 2 dX12_test_36 rfl ?_
  refine jv_if_eq hC 45 dX12_test_37 (by decide) (fun h4 => ?_) (fun h4 => ?_)
  · have hF := hi_pos h4 hF
    refine jv_bipush hC dX12_test_45 c8_8 ?_
    refine jv_sub [] (ls' := []) rfl ?_
    exact jv_pc 47 rfl (s_Md_test_2 h50 hrP hC hF)
  · have hF := hi_neg h4 hF
    refine jv_bipush hC dX12_test_40 c8_7 ?_
    refine jv_goto hC 47 dX12_test_42 (by decide) ?_
    refine jv_sub [] (ls' := []) rfl ?_
    exact jv_pc 47 rfl (s_Md_test_2 h50 hrP hC hF)
set_option maxRecDepth 100000 in
set_option maxHeartbeats 4000000 in
theorem k_Md_test {n : Nat} {S : hm_S} {rP : Nat → Int32 → hm_M → Option hm_M} {dP : Nat} (h50 : 50 ≤ dP) (hrP : ∀ (a0 : Nat) (a1 : Int32) (M : hm_M) (M' : hm_M), rP a0 a1 M = some M' → hm_KM yX12_takePart cX12_takePart 4 none dP n S [.ref a0, .int a1] M none M') {v0 : Nat} {v1 : Int32} {M : hm_M} {M' : hm_M} (hF : f_Md_test S rP v0 v1 M = some M') : hm_KM yX12_test cX12_test 3 none (dP + 3) n S [.ref v0, .int v1] M none M' := by
  refine hm_enter mm_Md_test (Nat.le_of_ble_eq_true rfl) (fun X hC => ?_)
  show hm_U X 0 [(0, .ref v0), (1, .int v1)] [] M _
  unfold f_Md_test at hF
  refine jv_aload_n hC 0 dX12_test_0 rfl ?_
  refine jv_iload_n hC 1 dX12_test_1 rfl ?_
  obtain ⟨g1, hF⟩ := hg_some hF
  obtain ⟨M3, c2, hF⟩ := hv_some hF
  refine jv_callV hC (st := []) [.int v1] (k_Md_sums h50 hrP c2) mm_Md_sums mi_Md_sums ml_X12_244 dX12_test_2 g1 rfl (by omega) rfl rfl (Nat.le_of_ble_eq_true rfl) ?_
  refine jv_nf 5 [] rfl rfl ?_
  refine jv_aload_n hC 0 dX12_test_5 rfl ?_
  refine jv_bipush hC dX12_test_6 c8_60 ?_
  obtain ⟨r6, M5, c4, hF⟩ := hb_some hF
  refine jv_callV hC (st := []) [.int (60 : Int32)] (k_Md_isSign c4) mm_Md_isSign mi_Md_isSign ml_X12_162 dX12_test_8 g1 rfl (by omega) rfl rfl (Nat.le_of_ble_eq_true rfl) ?_
  refine jv_nf 11 [.int r6] rfl rfl ?_
  refine jv_istore_n hC [(2, .int r6), (0, .ref v0), (1, .int v1)] dX12_test_11 (by decide) rfl ?_
  refine jv_aload_n hC 1 dX12_test_12 rfl ?_
  refine jv_bipush hC dX12_test_13 c8_60 ?_
  obtain ⟨r9, M8, c7, hF⟩ := hb_some hF
  refine jv_callV hC (st := []) [.int (60 : Int32)] (k_Md_hasSign c7) mm_Md_hasSign mi_Md_hasSign ml_X12_247 dX12_test_15 g1 rfl (by omega) rfl rfl (Nat.le_of_ble_eq_true rfl) ?_
  refine jv_nf 18 [.int r9] rfl rfl ?_
  refine jv_if_ne hC 30 dX12_test_18 (by decide) (fun h10 => ?_) (fun h10 => ?_)
  · have hF := hi_neg h10 hF
    refine jv_sub [1, 2, 0] (ls' := [(0, .ref v0), (1, .int v1), (2, .int r6)]) rfl ?_
    exact jv_pc 30 rfl (s_Md_test_1 h50 hrP hC hF)
  · have hF := hi_pos h10 hF
    refine jv_aload_n hC 1 dX12_test_21 rfl ?_
    refine jv_bipush hC dX12_test_22 c8_61 ?_
    obtain ⟨r13, M12, c11, hF⟩ := hb_some hF
    refine jv_callV hC (st := []) [.int (61 : Int32)] (k_Md_hasSign c11) mm_Md_hasSign mi_Md_hasSign ml_X12_247 dX12_test_24 g1 rfl (by omega) rfl rfl (Nat.le_of_ble_eq_true rfl) ?_
    refine jv_nf 27 [.int r13] rfl rfl ?_
    refine jv_if_eq hC 51 dX12_test_27 (by decide) (fun h14 => ?_) (fun h14 => ?_)
    · have hF := hi_pos h14 hF
      obtain rfl := hr_somev hF
      exact jv_vret hC dX12_test_51
    · have hF := hi_neg h14 hF
      refine jv_sub [1, 2, 0] (ls' := [(0, .ref v0), (1, .int v1), (2, .int r6)]) rfl ?_
      exact jv_pc 30 rfl (s_Md_test_1 h50 hrP hC hF)
set_option maxRecDepth 100000 in
set_option maxHeartbeats 4000000 in
theorem k_Md_isWord {n : Nat} {S : hm_S} {v0 : Nat} {v1 : Int32} {M : hm_M} {r : Int32} {M' : hm_M} (hF : f_Md_isWord S v0 v1 M = some (r, M')) : hm_KM yX12_isWord cX12_isWord 2 (some .boolean) 1 n S [.ref v0, .int v1] M (some (.int r)) M' := by
  refine hm_enter mm_Md_isWord (Nat.le_of_ble_eq_true rfl) (fun X hC => ?_)
  show hm_U X 0 [(0, .ref v0), (1, .int v1)] [] M _
  unfold f_Md_isWord at hF
  refine jv_aload_n hC 0 dX12_isWord_0 rfl ?_
  obtain ⟨g1, hF⟩ := hg_some hF
  refine jv_getI hC fl_X12_159 dX12_isWord_1 rfl g1 ?_
  refine jv_if_ne hC 43 dX12_isWord_4 (by decide) (fun h2 => ?_) (fun h2 => ?_)
  · have hF := hi_neg h2 hF
    refine jv_iconst hC dX12_isWord_43 c32_0 ?_
    obtain ⟨rfl, rfl⟩ := hr_some hF
    exact jv_zret hC (by decide) dX12_isWord_44
  · have hF := hi_pos h2 hF
    refine jv_aload_n hC 0 dX12_isWord_7 rfl ?_
    obtain ⟨g3, hF⟩ := hg_some hF
    refine jv_getR hC fl_X12_24 dX12_isWord_8 rfl g1 g3 ?_
    refine jv_aload_n hC 0 dX12_isWord_11 rfl ?_
    refine jv_getI hC fl_X12_156 dX12_isWord_12 rfl g1 ?_
    obtain ⟨g4, hF⟩ := hg_some hF
    obtain ⟨n5, sn5, in5⟩ := hm_ib_ok g4
    refine jv_iaload hC dX12_isWord_15 sn5 in5 ?_
    refine jv_iconst hC dX12_isWord_16 c32_1 ?_
    refine jv_icmp_ne hC 43 dX12_isWord_17 (by decide) (fun h6 => ?_) (fun h6 => ?_)
    · have hF := hi_neg h6 hF
      refine jv_iconst hC dX12_isWord_43 c32_0 ?_
      obtain ⟨rfl, rfl⟩ := hr_some hF
      exact jv_zret hC (by decide) dX12_isWord_44
    · have hF := hi_pos h6 hF
      refine jv_aload_n hC 0 dX12_isWord_20 rfl ?_
      obtain ⟨g7, hF⟩ := hg_some hF
      refine jv_getR hC fl_X12_30 dX12_isWord_21 rfl g1 g7 ?_
      refine jv_aload_n hC 0 dX12_isWord_24 rfl ?_
      refine jv_getI hC fl_X12_156 dX12_isWord_25 rfl g1 ?_
      obtain ⟨g8, hF⟩ := hg_some hF
      obtain ⟨n9, sn9, in9⟩ := hm_ib_ok g8
      refine jv_laload hC dX12_isWord_28 sn9 in9 ?_
      refine jv_aload_n hC 0 dX12_isWord_29 rfl ?_
      obtain ⟨g10, hF⟩ := hg_some hF
      refine jv_getR hC fl_X12_78 dX12_isWord_30 rfl g1 g10 ?_
      refine jv_pc 33 rfl ?_
      refine jv_iload_n hC 1 dX12_isWord_33 rfl ?_
      obtain ⟨g11, hF⟩ := hg_some hF
      obtain ⟨n12, sn12, in12⟩ := hm_ib_ok g11
      refine jv_laload hC dX12_isWord_34 sn12 in12 ?_
      refine jv_lcmp hC dX12_isWord_35 ?_
      refine jv_if_ne hC 43 dX12_isWord_36 (by decide) (fun h13 => ?_) (fun h13 => ?_)
      · have hF := hi_neg h13 hF
        refine jv_iconst hC dX12_isWord_43 c32_0 ?_
        obtain ⟨rfl, rfl⟩ := hr_some hF
        exact jv_zret hC (by decide) dX12_isWord_44
      · have hF := hi_pos h13 hF
        refine jv_iconst hC dX12_isWord_39 c32_1 ?_
        refine jv_goto hC 44 dX12_isWord_40 (by decide) ?_
        obtain ⟨rfl, rfl⟩ := hr_some hF
        exact jv_zret hC (by decide) dX12_isWord_44
set_option maxRecDepth 100000 in
set_option maxHeartbeats 4000000 in
theorem s_Md_all_3 {X : hm_X} {n : Nat} {S : hm_S} {rP : Nat → Int32 → hm_M → Option hm_M} {dP : Nat} (h50 : 50 ≤ dP) (hrP : ∀ (a0 : Nat) (a1 : Int32) (M : hm_M) (M' : hm_M), rP a0 a1 M = some M' → hm_KM yX12_takePart cX12_takePart 4 none dP n S [.ref a0, .int a1] M none M') (hC : hm_C X RX12 cX12_all 3 none (dP + 4) n S) {k5 : Nat → Int32 → hm_M → Option hm_M} (hk5 : ∀ (v0 : Nat) (v1 : Int32)  (M : hm_M) (M' : hm_M), k5 v0 v1 M = some M' → hm_U X 5 [(0, .ref v0), (1, .int v1)] [] M (hm_Q X none M')) {v0 : Nat} {v1 : Int32} {s0 : Int32} {s1 : Nat} {M : hm_M} {M' : hm_M} (hF : b_Md_all_3 S rP k5 v0 v1 s0 s1 M = some M') : hm_U X 57 [(0, .ref v0), (1, .int v1)] [.int s0, .ref s1] M (hm_Q X none M') := by
  unfold b_Md_all_3 at hF
  refine jv_iconst hC dX12_all_57 c32_0 ?_
  obtain ⟨g1, hF⟩ := hg_some hF
  obtain ⟨M3, c2, hF⟩ := hv_some hF
  refine jv_callV hC (st := []) [.int s0, .int (0 : Int32)] (k_Md_emit c2) mm_Md_emit mi_Md_emit ml_X12_237 dX12_all_58 g1 rfl (by omega) rfl rfl (Nat.le_of_ble_eq_true rfl) ?_
  refine jv_nf 61 [] rfl rfl ?_
  refine jv_goto hC 5 dX12_all_61 (by decide) ?_
  exact jv_pc 5 rfl (hk5 _ _ _ _ hF)
set_option maxRecDepth 100000 in
set_option maxHeartbeats 4000000 in
theorem s_Md_all_2 {X : hm_X} {n : Nat} {S : hm_S} {rP : Nat → Int32 → hm_M → Option hm_M} {dP : Nat} (h50 : 50 ≤ dP) (hrP : ∀ (a0 : Nat) (a1 : Int32) (M : hm_M) (M' : hm_M), rP a0 a1 M = some M' → hm_KM yX12_takePart cX12_takePart 4 none dP n S [.ref a0, .int a1] M none M') (hC : hm_C X RX12 cX12_all 3 none (dP + 4) n S) {k5 : Nat → Int32 → hm_M → Option hm_M} (hk5 : ∀ (v0 : Nat) (v1 : Int32)  (M : hm_M) (M' : hm_M), k5 v0 v1 M = some M' → hm_U X 5 [(0, .ref v0), (1, .int v1)] [] M (hm_Q X none M')) {v0 : Nat} {v1 : Int32} {M : hm_M} {M' : hm_M} (hF : b_Md_all_2 S rP k5 v0 v1 M = some M') : hm_U X 23 [(0, .ref v0), (1, .int v1)] [] M (hm_Q X none M') := by
  unfold b_Md_all_2 at hF
  refine jv_aload_n hC 0 dX12_all_23 rfl ?_
  refine jv_bipush hC dX12_all_24 c8_13 ?_
  obtain ⟨g1, hF⟩ := hg_some hF
  obtain ⟨r4, M3, c2, hF⟩ := hb_some hF
  refine jv_callV hC (st := []) [.int (13 : Int32)] (k_Md_isWord c2) mm_Md_isWord mi_Md_isWord ml_X12_169 dX12_all_26 g1 rfl (by omega) rfl rfl (Nat.le_of_ble_eq_true rfl) ?_
  refine jv_nf 29 [.int r4] rfl rfl ?_
  refine jv_istore_n hC [(2, .int r4), (0, .ref v0), (1, .int v1)] dX12_all_29 (by decide) rfl ?_
  refine jv_aload_n hC 1 dX12_all_30 rfl ?_
  refine jv_dup hC dX12_all_31 rfl ?_
  refine jv_getI hC fl_X12_156 dX12_all_32 rfl g1 ?_
  refine jv_iconst hC dX12_all_35 c32_1 ?_
  refine jv_iadd hC dX12_all_36 ?_
  refine jv_putI hC fl_X12_156 dX12_all_37 rfl rfl rfl g1 ?_
  obtain ⟨M5, e6, hF⟩ := hl_some hF
  refine jv_mem e6 ?_
  refine jv_pc 40 rfl ?_
  refine jv_aload_n hC 1 dX12_all_40 rfl ?_
  refine jv_iload_n hC 2 dX12_all_41 rfl ?_
  obtain ⟨M8, c7, hF⟩ := hv_some hF
  refine jv_callV hC (st := []) [.int v1] (k_Md_test h50 hrP c7) mm_Md_test mi_Md_test ml_X12_241 dX12_all_42 g1 rfl (by omega) rfl rfl (Nat.le_of_ble_eq_true rfl) ?_
  refine jv_nf 45 [] rfl rfl ?_
  refine jv_aload_n hC 1 dX12_all_45 rfl ?_
  refine jv_iload_n hC 0 dX12_all_46 rfl ?_
  refine jv_if_eq hC 55 dX12_all_47 (by decide) (fun h9 => ?_) (fun h9 => ?_)
  · have hF := hi_pos h9 hF
    refine jv_bipush hC dX12_all_55 c8_10 ?_
    refine jv_sub [1, 2] (ls' := [(0, .ref v0), (1, .int v1)]) rfl ?_
    exact jv_pc 57 rfl (s_Md_all_3 h50 hrP hC hk5 hF)
  · have hF := hi_neg h9 hF
    refine jv_bipush hC dX12_all_50 c8_9 ?_
    refine jv_goto hC 57 dX12_all_52 (by decide) ?_
    refine jv_sub [1, 2] (ls' := [(0, .ref v0), (1, .int v1)]) rfl ?_
    exact jv_pc 57 rfl (s_Md_all_3 h50 hrP hC hk5 hF)
set_option maxRecDepth 100000 in
set_option maxHeartbeats 4000000 in
theorem t_Md_all_1 {X : hm_X} {n : Nat} {S : hm_S} {rP : Nat → Int32 → hm_M → Option hm_M} {dP : Nat} (h50 : 50 ≤ dP) (hrP : ∀ (a0 : Nat) (a1 : Int32) (M : hm_M) (M' : hm_M), rP a0 a1 M = some M' → hm_KM yX12_takePart cX12_takePart 4 none dP n S [.ref a0, .int a1] M none M') (hC : hm_C X RX12 cX12_all 3 none (dP + 4) n S) {k5 : Nat → Int32 → hm_M → Option hm_M} (hk5 : ∀ (v0 : Nat) (v1 : Int32)  (M : hm_M) (M' : hm_M), k5 v0 v1 M = some M' → hm_U X 5 [(0, .ref v0), (1, .int v1)] [] M (hm_Q X none M')) {v0 : Nat} {v1 : Int32} {M : hm_M} {M' : hm_M} (hF : b_Md_all_1 S rP k5 v0 v1 M = some M') : hm_U X 5 [(0, .ref v0), (1, .int v1)] [] M (hm_Q X none M') := by
  unfold b_Md_all_1 at hF
  refine jv_aload_n hC 0 dX12_all_5 rfl ?_
  refine jv_bipush hC dX12_all_6 c8_13 ?_
  obtain ⟨g1, hF⟩ := hg_some hF
  obtain ⟨r4, M3, c2, hF⟩ := hb_some hF
  refine jv_callV hC (st := []) [.int (13 : Int32)] (k_Md_isWord c2) mm_Md_isWord mi_Md_isWord ml_X12_169 dX12_all_8 g1 rfl (by omega) rfl rfl (Nat.le_of_ble_eq_true rfl) ?_
  refine jv_nf 11 [.int r4] rfl rfl ?_
  refine jv_if_ne hC 23 dX12_all_11 (by decide) (fun h5 => ?_) (fun h5 => ?_)
  · have hF := hi_neg h5 hF
    exact jv_pc 23 rfl (s_Md_all_2 h50 hrP hC hk5 hF)
  · have hF := hi_pos h5 hF
    refine jv_aload_n hC 0 dX12_all_14 rfl ?_
    refine jv_bipush hC dX12_all_15 c8_14 ?_
    obtain ⟨r8, M7, c6, hF⟩ := hb_some hF
    refine jv_callV hC (st := []) [.int (14 : Int32)] (k_Md_isWord c6) mm_Md_isWord mi_Md_isWord ml_X12_169 dX12_all_17 g1 rfl (by omega) rfl rfl (Nat.le_of_ble_eq_true rfl) ?_
    refine jv_nf 20 [.int r8] rfl rfl ?_
    refine jv_if_eq hC 64 dX12_all_20 (by decide) (fun h9 => ?_) (fun h9 => ?_)
    · have hF := hi_pos h9 hF
      obtain rfl := hr_somev hF
      exact jv_vret hC dX12_all_64
    · have hF := hi_neg h9 hF
      exact jv_pc 23 rfl (s_Md_all_2 h50 hrP hC hk5 hF)
theorem s_Md_all_1 {X : hm_X} {n : Nat} {S : hm_S} {rP : Nat → Int32 → hm_M → Option hm_M} {dP : Nat} (h50 : 50 ≤ dP) (hrP : ∀ (a0 : Nat) (a1 : Int32) (M : hm_M) (M' : hm_M), rP a0 a1 M = some M' → hm_KM yX12_takePart cX12_takePart 4 none dP n S [.ref a0, .int a1] M none M') (hC : hm_C X RX12 cX12_all 3 none (dP + 4) n S) : ∀ (q : Nat) (v0 : Nat) (v1 : Int32) (M : hm_M) (M' : hm_M), f_Md_all_1 S rP  q v0 v1 M = some M' → hm_U X 5 [(0, .ref v0), (1, .int v1)] [] M (hm_Q X none M') := by
  intro q
  induction q with
  | zero => intro v0 v1 M M' hF; cases hF
  | succ q ih => intro v0 v1 M M' hF; exact t_Md_all_1 h50 hrP hC ih hF
set_option maxRecDepth 100000 in
set_option maxHeartbeats 4000000 in
theorem k_Md_all {n : Nat} {S : hm_S} {rP : Nat → Int32 → hm_M → Option hm_M} {dP : Nat} (h50 : 50 ≤ dP) (hrP : ∀ (a0 : Nat) (a1 : Int32) (M : hm_M) (M' : hm_M), rP a0 a1 M = some M' → hm_KM yX12_takePart cX12_takePart 4 none dP n S [.ref a0, .int a1] M none M') {v0 : Nat} {v1 : Int32} {M : hm_M} {M' : hm_M} (hF : f_Md_all S rP v0 v1 M = some M') : hm_KM yX12_all cX12_all 3 none (dP + 4) n S [.ref v0, .int v1] M none M' := by
  refine hm_enter mm_Md_all (Nat.le_of_ble_eq_true rfl) (fun X hC => ?_)
  show hm_U X 0 [(0, .ref v0), (1, .int v1)] [] M _
  unfold f_Md_all at hF
  refine jv_aload_n hC 0 dX12_all_0 rfl ?_
  refine jv_iload_n hC 1 dX12_all_1 rfl ?_
  obtain ⟨g1, hF⟩ := hg_some hF
  obtain ⟨M3, c2, hF⟩ := hv_some hF
  refine jv_callV hC (st := []) [.int v1] (k_Md_test h50 hrP c2) mm_Md_test mi_Md_test ml_X12_241 dX12_all_2 g1 rfl (by omega) rfl rfl (Nat.le_of_ble_eq_true rfl) ?_
  refine jv_nf 5 [] rfl rfl ?_
  exact jv_pc 5 rfl (s_Md_all_1 h50 hrP hC hN _ _ _ _ hF)
set_option maxRecDepth 100000 in
set_option maxHeartbeats 4000000 in
theorem k_Md_isPane {n : Nat} {S : hm_S} {v0 : Nat} {v1 : Int32} {M : hm_M} {r : Int32} {M' : hm_M} (hF : f_Md_isPane S v0 v1 M = some (r, M')) : hm_KM yX12_isPane cX12_isPane 2 (some .boolean) 2 n S [.ref v0, .int v1] M (some (.int r)) M' := by
  refine hm_enter mm_Md_isPane (Nat.le_of_ble_eq_true rfl) (fun X hC => ?_)
  show hm_U X 0 [(0, .ref v0), (1, .int v1)] [] M _
  unfold f_Md_isPane at hF
  refine jv_iload_n hC 1 dX12_isPane_0 rfl ?_
  refine jv_if_lt hC 16 dX12_isPane_1 (by decide) (fun h1 => ?_) (fun h1 => ?_)
  · have hF := hi_pos h1 hF
    refine jv_iconst hC dX12_isPane_16 c32_0 ?_
    obtain ⟨rfl, rfl⟩ := hr_some hF
    exact jv_zret hC (by decide) dX12_isPane_17
  · have hF := hi_neg h1 hF
    refine jv_iload_n hC 1 dX12_isPane_4 rfl ?_
    refine jv_aload_n hC 0 dX12_isPane_5 rfl ?_
    obtain ⟨g2, hF⟩ := hg_some hF
    obtain ⟨r5, M4, c3, hF⟩ := hb_some hF
    refine jv_callV hC (st := [.int v1]) [] (k_Md_panes c3) mm_Md_panes mi_Md_panes ml_X12_269 dX12_isPane_6 g2 rfl (Nat.le_of_ble_eq_true rfl) rfl rfl (Nat.le_of_ble_eq_true rfl) ?_
    refine jv_nf 9 [.int r5, .int v1] rfl rfl ?_
    refine jv_icmp_ge hC 16 dX12_isPane_9 (by decide) (fun h6 => ?_) (fun h6 => ?_)
    · have hF := hi_pos h6 hF
      refine jv_iconst hC dX12_isPane_16 c32_0 ?_
      obtain ⟨rfl, rfl⟩ := hr_some hF
      exact jv_zret hC (by decide) dX12_isPane_17
    · have hF := hi_neg h6 hF
      refine jv_iconst hC dX12_isPane_12 c32_1 ?_
      refine jv_goto hC 17 dX12_isPane_13 (by decide) ?_
      obtain ⟨rfl, rfl⟩ := hr_some hF
      exact jv_zret hC (by decide) dX12_isPane_17
set_option maxRecDepth 100000 in
set_option maxHeartbeats 4000000 in
theorem k_Md_areUnlike {n : Nat} {S : hm_S} {v0 : Nat} {v1 : Int32} {v2 : Int32} {M : hm_M} {r : Int32} {M' : hm_M} (hF : f_Md_areUnlike S v0 v1 v2 M = some (r, M')) : hm_KM yX12_areUnlike cX12_areUnlike 3 (some .boolean) 3 n S [.ref v0, .int v1, .int v2] M (some (.int r)) M' := by
  refine hm_enter mm_Md_areUnlike (Nat.le_of_ble_eq_true rfl) (fun X hC => ?_)
  show hm_U X 0 [(0, .ref v0), (1, .int v1), (2, .int v2)] [] M _
  unfold f_Md_areUnlike at hF
  refine jv_aload_n hC 0 dX12_areUnlike_0 rfl ?_
  refine jv_iload_n hC 1 dX12_areUnlike_1 rfl ?_
  obtain ⟨g1, hF⟩ := hg_some hF
  obtain ⟨r4, M3, c2, hF⟩ := hb_some hF
  refine jv_callV hC (st := []) [.int v1] (k_Md_isPane c2) mm_Md_isPane mi_Md_isPane ml_X12_314 dX12_areUnlike_2 g1 rfl (Nat.le_of_ble_eq_true rfl) rfl rfl (Nat.le_of_ble_eq_true rfl) ?_
  refine jv_nf 5 [.int r4] rfl rfl ?_
  refine jv_if_eq hC 33 dX12_areUnlike_5 (by decide) (fun h5 => ?_) (fun h5 => ?_)
  · have hF := hi_pos h5 hF
    refine jv_iconst hC dX12_areUnlike_33 c32_0 ?_
    obtain ⟨rfl, rfl⟩ := hr_some hF
    exact jv_zret hC (by decide) dX12_areUnlike_34
  · have hF := hi_neg h5 hF
    refine jv_aload_n hC 0 dX12_areUnlike_8 rfl ?_
    refine jv_iload_n hC 2 dX12_areUnlike_9 rfl ?_
    obtain ⟨r8, M7, c6, hF⟩ := hb_some hF
    refine jv_callV hC (st := []) [.int v2] (k_Md_isPane c6) mm_Md_isPane mi_Md_isPane ml_X12_314 dX12_areUnlike_10 g1 rfl (Nat.le_of_ble_eq_true rfl) rfl rfl (Nat.le_of_ble_eq_true rfl) ?_
    refine jv_nf 13 [.int r8] rfl rfl ?_
    refine jv_if_eq hC 33 dX12_areUnlike_13 (by decide) (fun h9 => ?_) (fun h9 => ?_)
    · have hF := hi_pos h9 hF
      refine jv_iconst hC dX12_areUnlike_33 c32_0 ?_
      obtain ⟨rfl, rfl⟩ := hr_some hF
      exact jv_zret hC (by decide) dX12_areUnlike_34
    · have hF := hi_neg h9 hF
      refine jv_aload_n hC 0 dX12_areUnlike_16 rfl ?_
      refine jv_iload_n hC 1 dX12_areUnlike_17 rfl ?_
      obtain ⟨r12, M11, c10, hF⟩ := hb_some hF
      refine jv_callV hC (st := []) [.int v1] (k_Md_ownerOf c10) mm_Md_ownerOf mi_Md_ownerOf ml_X12_289 dX12_areUnlike_18 g1 rfl (Nat.le_of_ble_eq_true rfl) rfl rfl (Nat.le_of_ble_eq_true rfl) ?_
      refine jv_nf 21 [.int r12] rfl rfl ?_
      refine jv_aload_n hC 0 dX12_areUnlike_21 rfl ?_
      refine jv_iload_n hC 2 dX12_areUnlike_22 rfl ?_
      obtain ⟨r15, M14, c13, hF⟩ := hb_some hF
      refine jv_callV hC (st := [.int r12]) [.int v2] (k_Md_ownerOf c13) mm_Md_ownerOf mi_Md_ownerOf ml_X12_289 dX12_areUnlike_23 g1 rfl (Nat.le_of_ble_eq_true rfl) rfl rfl (Nat.le_of_ble_eq_true rfl) ?_
      refine jv_nf 26 [.int r15, .int r12] rfl rfl ?_
      refine jv_icmp_eq hC 33 dX12_areUnlike_26 (by decide) (fun h16 => ?_) (fun h16 => ?_)
      · have hF := hi_pos h16 hF
        refine jv_iconst hC dX12_areUnlike_33 c32_0 ?_
        obtain ⟨rfl, rfl⟩ := hr_some hF
        exact jv_zret hC (by decide) dX12_areUnlike_34
      · have hF := hi_neg h16 hF
        refine jv_iconst hC dX12_areUnlike_29 c32_1 ?_
        refine jv_goto hC 34 dX12_areUnlike_30 (by decide) ?_
        obtain ⟨rfl, rfl⟩ := hr_some hF
        exact jv_zret hC (by decide) dX12_areUnlike_34
set_option maxRecDepth 100000 in
set_option maxHeartbeats 4000000 in
theorem t_Md_findYields_2 {X : hm_X} {n : Nat} {S : hm_S} (hC : hm_C X RX12 cX12_findYields 2 none 6 n S) {k23 : Nat → Int32 → hm_M → Option hm_M} (hk23 : ∀ (v0 : Nat) (v1 : Int32)  (M : hm_M) (M' : hm_M), k23 v0 v1 M = some M' → hm_U X 23 [(0, .ref v0), (1, .int v1)] [] M (hm_Q X none M')) {v0 : Nat} {v1 : Int32} {M : hm_M} {M' : hm_M} (hF : b_Md_findYields_2 S k23 v0 v1 M = some M') : hm_U X 23 [(0, .ref v0), (1, .int v1)] [] M (hm_Q X none M') := by
  unfold b_Md_findYields_2 at hF
  refine jv_iload_n hC 1 dX12_findYields_23 rfl ?_
  refine jv_sipush hC dX12_findYields_24 c16_1248 ?_
  refine jv_icmp_ge hC 48 dX12_findYields_27 (by decide) (fun h1 => ?_) (fun h1 => ?_)
  · have hF := hi_pos h1 hF
    obtain rfl := hr_somev hF
    exact jv_vret hC dX12_findYields_48
  · have hF := hi_neg h1 hF
    refine jv_aload_n hC 0 dX12_findYields_30 rfl ?_
    refine jv_iload_n hC 1 dX12_findYields_31 rfl ?_
    refine jv_bipush hC dX12_findYields_32 c8_24 ?_
    refine jv_idiv hC dX12_findYields_34 (by decide) ?_
    refine jv_iload_n hC 1 dX12_findYields_35 rfl ?_
    refine jv_bipush hC dX12_findYields_36 c8_24 ?_
    refine jv_irem hC dX12_findYields_38 (by decide) ?_
    refine jv_pc 39 rfl ?_
    obtain ⟨g2, hF⟩ := hg_some hF
    obtain ⟨M4, c3, hF⟩ := hv_some hF
    refine jv_callV hC (st := []) [.int (v1 / (24 : Int32)), .int (v1 - v1 / (24 : Int32) * (24 : Int32))] (k_Md_addsYields c3) mm_Md_addsYields mi_Md_addsYields ml_X12_308 dX12_findYields_39 g2 rfl (Nat.le_of_ble_eq_true rfl) rfl rfl (Nat.le_of_ble_eq_true rfl) ?_
    refine jv_nf 42 [] rfl rfl ?_
    refine jv_iinc hC 1 [(1, .int (v1 + (1 : Int32))), (0, .ref v0)] dX12_findYields_42 rfl c32_1 (by decide) rfl ?_
    refine jv_goto hC 23 dX12_findYields_45 (by decide) ?_
    refine jv_sub [1, 0] (ls' := [(0, .ref v0), (1, .int (v1 + (1 : Int32)))]) rfl ?_
    exact jv_pc 23 rfl (hk23 _ _ _ _ hF)
theorem s_Md_findYields_2 {X : hm_X} {n : Nat} {S : hm_S} (hC : hm_C X RX12 cX12_findYields 2 none 6 n S) : ∀ (q : Nat) (v0 : Nat) (v1 : Int32) (M : hm_M) (M' : hm_M), f_Md_findYields_2 S  q v0 v1 M = some M' → hm_U X 23 [(0, .ref v0), (1, .int v1)] [] M (hm_Q X none M') := by
  intro q
  induction q with
  | zero => intro v0 v1 M M' hF; cases hF
  | succ q ih => intro v0 v1 M M' hF; exact t_Md_findYields_2 hC ih hF
set_option maxRecDepth 100000 in
set_option maxHeartbeats 4000000 in
theorem t_Md_findYields_1 {X : hm_X} {n : Nat} {S : hm_S} (hC : hm_C X RX12 cX12_findYields 2 none 6 n S) {k2 : Nat → Int32 → hm_M → Option hm_M} (hk2 : ∀ (v0 : Nat) (v1 : Int32)  (M : hm_M) (M' : hm_M), k2 v0 v1 M = some M' → hm_U X 2 [(0, .ref v0), (1, .int v1)] [] M (hm_Q X none M')) {v0 : Nat} {v1 : Int32} {M : hm_M} {M' : hm_M} (hF : b_Md_findYields_1 S k2 v0 v1 M = some M') : hm_U X 2 [(0, .ref v0), (1, .int v1)] [] M (hm_Q X none M') := by
  unfold b_Md_findYields_1 at hF
  refine jv_iload_n hC 1 dX12_findYields_2 rfl ?_
  refine jv_bipush hC dX12_findYields_3 c8_12 ?_
  refine jv_icmp_ge hC 21 dX12_findYields_5 (by decide) (fun h1 => ?_) (fun h1 => ?_)
  · have hF := hi_pos h1 hF
    refine jv_iconst hC dX12_findYields_21 c32_0 ?_
    refine jv_istore_n hC [(1, .int (0 : Int32)), (0, .ref v0)] dX12_findYields_22 (by decide) rfl ?_
    refine jv_sub [1, 0] (ls' := [(0, .ref v0), (1, .int (0 : Int32))]) rfl ?_
    exact jv_pc 23 rfl (s_Md_findYields_2 hC hN _ _ _ _ hF)
  · have hF := hi_neg h1 hF
    refine jv_aload_n hC 0 dX12_findYields_8 rfl ?_
    obtain ⟨g2, hF⟩ := hg_some hF
    obtain ⟨g3, hF⟩ := hg_some hF
    refine jv_getR hC fl_X12_109 dX12_findYields_9 rfl g2 g3 ?_
    refine jv_iload_n hC 1 dX12_findYields_12 rfl ?_
    refine jv_iconst hC dX12_findYields_13 c32_0 ?_
    obtain ⟨g4, hF⟩ := hg_some hF
    obtain ⟨n5, sn5, in5⟩ := hm_ib_ok g4
    refine jv_iastore hC dX12_findYields_14 sn5 in5 ?_
    obtain ⟨M6, e7, hF⟩ := hl_some hF
    refine jv_mem e7 ?_
    refine jv_iinc hC 1 [(1, .int (v1 + (1 : Int32))), (0, .ref v0)] dX12_findYields_15 rfl c32_1 (by decide) rfl ?_
    refine jv_goto hC 2 dX12_findYields_18 (by decide) ?_
    refine jv_sub [1, 0] (ls' := [(0, .ref v0), (1, .int (v1 + (1 : Int32)))]) rfl ?_
    exact jv_pc 2 rfl (hk2 _ _ _ _ hF)
theorem s_Md_findYields_1 {X : hm_X} {n : Nat} {S : hm_S} (hC : hm_C X RX12 cX12_findYields 2 none 6 n S) : ∀ (q : Nat) (v0 : Nat) (v1 : Int32) (M : hm_M) (M' : hm_M), f_Md_findYields_1 S  q v0 v1 M = some M' → hm_U X 2 [(0, .ref v0), (1, .int v1)] [] M (hm_Q X none M') := by
  intro q
  induction q with
  | zero => intro v0 v1 M M' hF; cases hF
  | succ q ih => intro v0 v1 M M' hF; exact t_Md_findYields_1 hC ih hF
set_option maxRecDepth 100000 in
set_option maxHeartbeats 4000000 in
theorem k_Md_findYields {n : Nat} {S : hm_S} {v0 : Nat} {M : hm_M} {M' : hm_M} (hF : f_Md_findYields S v0 M = some M') : hm_KM yX12_findYields cX12_findYields 2 none 6 n S [.ref v0] M none M' := by
  refine hm_enter mm_Md_findYields (Nat.le_of_ble_eq_true rfl) (fun X hC => ?_)
  show hm_U X 0 [(0, .ref v0)] [] M _
  unfold f_Md_findYields at hF
  refine jv_iconst hC dX12_findYields_0 c32_0 ?_
  refine jv_istore_n hC [(1, .int (0 : Int32)), (0, .ref v0)] dX12_findYields_1 (by decide) rfl ?_
  refine jv_sub [1, 0] (ls' := [(0, .ref v0), (1, .int (0 : Int32))]) rfl ?_
  exact jv_pc 2 rfl (s_Md_findYields_1 hC hN _ _ _ _ hF)
set_option maxRecDepth 100000 in
set_option maxHeartbeats 4000000 in
theorem t_Md_bits_1 {X : hm_X} {n : Nat} {S : hm_S} (hC : hm_C X RX12 cX12_bits 3 (some .int) 1 n S) {k4 : Int32 → Int32 → Int32 → hm_M → Option (Int32 × hm_M)} (hk4 : ∀ (v0 : Int32) (v1 : Int32) (v2 : Int32)  (M : hm_M) (r : Int32) (M' : hm_M), k4 v0 v1 v2 M = some (r, M') → hm_U X 4 [(0, .int v0), (1, .int v1), (2, .int v2)] [] M (hm_Q X (some (.int r)) M')) {v0 : Int32} {v1 : Int32} {v2 : Int32} {M : hm_M} {r : Int32} {M' : hm_M} (hF : b_Md_bits_1 S k4 v0 v1 v2 M = some (r, M')) : hm_U X 4 [(0, .int v0), (1, .int v1), (2, .int v2)] [] M (hm_Q X (some (.int r)) M') := by
  unfold b_Md_bits_1 at hF
  refine jv_iload_n hC 2 dX12_bits_4 rfl ?_
  refine jv_bipush hC dX12_bits_5 c8_12 ?_
  refine jv_icmp_ge hC 24 dX12_bits_7 (by decide) (fun h1 => ?_) (fun h1 => ?_)
  · have hF := hi_pos h1 hF
    refine jv_iload_n hC 1 dX12_bits_24 rfl ?_
    obtain ⟨rfl, rfl⟩ := hr_some hF
    exact jv_iret hC dX12_bits_25
  · have hF := hi_neg h1 hF
    refine jv_iload_n hC 1 dX12_bits_10 rfl ?_
    refine jv_iload_n hC 0 dX12_bits_11 rfl ?_
    refine jv_iload_n hC 2 dX12_bits_12 rfl ?_
    refine jv_ishr hC dX12_bits_13 ?_
    refine jv_iconst hC dX12_bits_14 c32_1 ?_
    refine jv_iand hC dX12_bits_15 ?_
    refine jv_iadd hC dX12_bits_16 ?_
    refine jv_pc 17 rfl ?_
    obtain ⟨x2, e3, hF⟩ := hl_some hF
    refine jv_topI e3 ?_
    refine jv_istore_n hC [(1, .int x2), (0, .int v0), (2, .int v2)] dX12_bits_17 (by decide) rfl ?_
    refine jv_iinc hC 2 [(2, .int (v2 + (1 : Int32))), (1, .int x2), (0, .int v0)] dX12_bits_18 rfl c32_1 (by decide) rfl ?_
    refine jv_goto hC 4 dX12_bits_21 (by decide) ?_
    refine jv_sub [2, 1, 0] (ls' := [(0, .int v0), (1, .int x2), (2, .int (v2 + (1 : Int32)))]) rfl ?_
    exact jv_pc 4 rfl (hk4 _ _ _ _ _ _ hF)
theorem s_Md_bits_1 {X : hm_X} {n : Nat} {S : hm_S} (hC : hm_C X RX12 cX12_bits 3 (some .int) 1 n S) : ∀ (q : Nat) (v0 : Int32) (v1 : Int32) (v2 : Int32) (M : hm_M) (r : Int32) (M' : hm_M), f_Md_bits_1 S  q v0 v1 v2 M = some (r, M') → hm_U X 4 [(0, .int v0), (1, .int v1), (2, .int v2)] [] M (hm_Q X (some (.int r)) M') := by
  intro q
  induction q with
  | zero => intro v0 v1 v2 M r M' hF; cases hF
  | succ q ih => intro v0 v1 v2 M r M' hF; exact t_Md_bits_1 hC ih hF
set_option maxRecDepth 100000 in
set_option maxHeartbeats 4000000 in
theorem k_Md_bits {n : Nat} {S : hm_S} {v0 : Int32} {M : hm_M} {r : Int32} {M' : hm_M} (hF : f_Md_bits S v0 M = some (r, M')) : hm_KM yX12_bits cX12_bits 3 (some .int) 1 n S [.int v0] M (some (.int r)) M' := by
  refine hm_enter mm_Md_bits (Nat.le_of_ble_eq_true rfl) (fun X hC => ?_)
  show hm_U X 0 [(0, .int v0)] [] M _
  unfold f_Md_bits at hF
  refine jv_iconst hC dX12_bits_0 c32_0 ?_
  refine jv_istore_n hC [(1, .int (0 : Int32)), (0, .int v0)] dX12_bits_1 (by decide) rfl ?_
  refine jv_iconst hC dX12_bits_2 c32_0 ?_
  refine jv_istore_n hC [(2, .int (0 : Int32)), (1, .int (0 : Int32)), (0, .int v0)] dX12_bits_3 (by decide) rfl ?_
  refine jv_sub [2, 1, 0] (ls' := [(0, .int v0), (1, .int (0 : Int32)), (2, .int (0 : Int32))]) rfl ?_
  exact jv_pc 4 rfl (s_Md_bits_1 hC hN _ _ _ _ _ _ hF)
set_option maxRecDepth 100000 in
set_option maxHeartbeats 4000000 in
theorem k_Md_worthOf {n : Nat} {S : hm_S} {v0 : Nat} {v1 : Int32} {v2 : Int32} {M : hm_M} {r : Int32} {M' : hm_M} (hF : f_Md_worthOf S v0 v1 v2 M = some (r, M')) : hm_KM yX12_worthOf cX12_worthOf 3 (some .int) 2 n S [.ref v0, .int v1, .int v2] M (some (.int r)) M' := by
  refine hm_enter mm_Md_worthOf (Nat.le_of_ble_eq_true rfl) (fun X hC => ?_)
  show hm_U X 0 [(0, .ref v0), (1, .int v1), (2, .int v2)] [] M _
  unfold f_Md_worthOf at hF
  refine jv_aload_n hC 0 dX12_worthOf_0 rfl ?_
  obtain ⟨g1, hF⟩ := hg_some hF
  obtain ⟨g2, hF⟩ := hg_some hF
  refine jv_getR hC fl_X12_109 dX12_worthOf_1 rfl g1 g2 ?_
  refine jv_iload_n hC 2 dX12_worthOf_4 rfl ?_
  obtain ⟨g3, hF⟩ := hg_some hF
  obtain ⟨n4, sn4, in4⟩ := hm_ib_ok g3
  refine jv_iaload hC dX12_worthOf_5 sn4 in4 ?_
  refine jv_iconst hC dX12_worthOf_6 c32_1 ?_
  refine jv_aload_n hC 0 dX12_worthOf_7 rfl ?_
  obtain ⟨g5, hF⟩ := hg_some hF
  refine jv_getR hC fl_X12_81 dX12_worthOf_8 rfl g1 g5 ?_
  refine jv_pc 11 rfl ?_
  refine jv_iconst hC dX12_worthOf_11 c32_5 ?_
  refine jv_iconst hC dX12_worthOf_12 c32_2 ?_
  refine jv_iload_n hC 1 dX12_worthOf_13 rfl ?_
  refine jv_imul hC dX12_worthOf_14 ?_
  refine jv_iadd hC dX12_worthOf_15 ?_
  obtain ⟨g6, hF⟩ := hg_some hF
  obtain ⟨n7, sn7, in7⟩ := hm_ib_ok g6
  refine jv_iaload hC dX12_worthOf_16 sn7 in7 ?_
  refine jv_aload_n hC 0 dX12_worthOf_17 rfl ?_
  refine jv_iload_n hC 2 dX12_worthOf_18 rfl ?_
  refine jv_pc 19 rfl ?_
  refine jv_iconst hC dX12_worthOf_19 c32_3 ?_
  obtain ⟨r10, M9, c8, hF⟩ := hb_some hF
  refine jv_callV hC (st := [.int (M.1 (M.2.2 v0 10) ((5 : Int32) + ((2 : Int32) * v1)).toNatClampNeg), .int (1 : Int32), .int (M.1 (M.2.2 v0 25) v2.toNatClampNeg)]) [.int v2, .int (3 : Int32)] (k_Md_paneOf c8) mm_Md_paneOf mi_Md_paneOf ml_X12_292 dX12_worthOf_20 g1 rfl (Nat.le_of_ble_eq_true rfl) rfl rfl (Nat.le_of_ble_eq_true rfl) ?_
  refine jv_nf 23 [.int r10, .int (M.1 (M.2.2 v0 10) ((5 : Int32) + ((2 : Int32) * v1)).toNatClampNeg), .int (1 : Int32), .int (M.1 (M.2.2 v0 25) v2.toNatClampNeg)] rfl rfl ?_
  refine jv_iand hC dX12_worthOf_23 ?_
  obtain ⟨r13, M12, c11, hF⟩ := hb_some hF
  refine jv_callS hC (st := [.int (1 : Int32), .int (M.1 (M.2.2 v0 25) v2.toNatClampNeg)]) [.int ((M.1 (M.2.2 v0 10) ((5 : Int32) + ((2 : Int32) * v1)).toNatClampNeg) &&& r10)] (k_Md_bits c11) mm_Md_bits ms_Md_bits ml_X12_326 dX12_worthOf_24 (Nat.le_of_ble_eq_true rfl) rfl rfl (Nat.le_of_ble_eq_true rfl) ?_
  refine jv_nf 27 [.int r13, .int (1 : Int32), .int (M.1 (M.2.2 v0 25) v2.toNatClampNeg)] rfl rfl ?_
  refine jv_iadd hC dX12_worthOf_27 ?_
  refine jv_imul hC dX12_worthOf_28 ?_
  obtain ⟨rfl, rfl⟩ := hr_some hF
  exact jv_iret hC dX12_worthOf_29
set_option maxRecDepth 100000 in
set_option maxHeartbeats 4000000 in
theorem k_Md_gainOf {n : Nat} {S : hm_S} {v0 : Nat} {v1 : Int32} {v2 : Int32} {M : hm_M} {r : Int32} {M' : hm_M} (hF : f_Md_gainOf S v0 v1 v2 M = some (r, M')) : hm_KM yX12_gainOf cX12_gainOf 7 (some .int) 3 n S [.ref v0, .int v1, .int v2] M (some (.int r)) M' := by
  refine hm_enter mm_Md_gainOf (Nat.le_of_ble_eq_true rfl) (fun X hC => ?_)
  show hm_U X 0 [(0, .ref v0), (1, .int v1), (2, .int v2)] [] M _
  unfold f_Md_gainOf at hF
  refine jv_aload_n hC 0 dX12_gainOf_0 rfl ?_
  refine jv_iload_n hC 1 dX12_gainOf_1 rfl ?_
  obtain ⟨g1, hF⟩ := hg_some hF
  obtain ⟨r4, M3, c2, hF⟩ := hb_some hF
  refine jv_callV hC (st := []) [.int v1] (k_Md_ownerOf c2) mm_Md_ownerOf mi_Md_ownerOf ml_X12_289 dX12_gainOf_2 g1 rfl (Nat.le_of_ble_eq_true rfl) rfl rfl (Nat.le_of_ble_eq_true rfl) ?_
  refine jv_nf 5 [.int r4] rfl rfl ?_
  refine jv_istore_n hC [(3, .int r4), (0, .ref v0), (1, .int v1), (2, .int v2)] dX12_gainOf_5 (by decide) rfl ?_
  refine jv_aload_n hC 1 dX12_gainOf_6 rfl ?_
  refine jv_iload_n hC 3 dX12_gainOf_7 rfl ?_
  obtain ⟨r7, M6, c5, hF⟩ := hb_some hF
  refine jv_callV hC (st := []) [.int v2] (k_Md_ownerOf c5) mm_Md_ownerOf mi_Md_ownerOf ml_X12_289 dX12_gainOf_8 g1 rfl (Nat.le_of_ble_eq_true rfl) rfl rfl (Nat.le_of_ble_eq_true rfl) ?_
  refine jv_nf 11 [.int r7] rfl rfl ?_
  refine jv_istore hC [(4, .int r7), (3, .int r4), (0, .ref v0), (1, .int v1), (2, .int v2)] dX12_gainOf_11 (by decide) rfl ?_
  refine jv_aload_n hC 2 dX12_gainOf_13 rfl ?_
  refine jv_iload_n hC 1 dX12_gainOf_14 rfl ?_
  refine jv_iload_n hC 4 dX12_gainOf_15 rfl ?_
  obtain ⟨r10, M9, c8, hF⟩ := hb_some hF
  refine jv_callV hC (st := []) [.int r4, .int v2] (k_Md_worthOf c8) mm_Md_worthOf mi_Md_worthOf ml_X12_329 dX12_gainOf_16 g1 rfl (Nat.le_of_ble_eq_true rfl) rfl rfl (Nat.le_of_ble_eq_true rfl) ?_
  refine jv_nf 19 [.int r10] rfl rfl ?_
  refine jv_aload_n hC 2 dX12_gainOf_19 rfl ?_
  refine jv_iload_n hC 1 dX12_gainOf_20 rfl ?_
  refine jv_iload_n hC 3 dX12_gainOf_21 rfl ?_
  obtain ⟨r13, M12, c11, hF⟩ := hb_some hF
  refine jv_callV hC (st := [.int r10]) [.int r4, .int v1] (k_Md_worthOf c11) mm_Md_worthOf mi_Md_worthOf ml_X12_329 dX12_gainOf_22 g1 rfl (Nat.le_of_ble_eq_true rfl) rfl rfl (Nat.le_of_ble_eq_true rfl) ?_
  refine jv_nf 25 [.int r13, .int r10] rfl rfl ?_
  refine jv_isub hC dX12_gainOf_25 ?_
  obtain ⟨x14, e15, hF⟩ := hl_some hF
  refine jv_topI e15 ?_
  refine jv_istore hC [(5, .int x14), (4, .int r7), (3, .int r4), (0, .ref v0), (1, .int v1), (2, .int v2)] dX12_gainOf_26 (by decide) rfl ?_
  refine jv_aload_n hC 3 dX12_gainOf_28 rfl ?_
  refine jv_iload hC 1 dX12_gainOf_29 rfl ?_
  refine jv_iload_n hC 4 dX12_gainOf_31 rfl ?_
  obtain ⟨r18, M17, c16, hF⟩ := hb_some hF
  refine jv_callV hC (st := []) [.int r7, .int v1] (k_Md_worthOf c16) mm_Md_worthOf mi_Md_worthOf ml_X12_329 dX12_gainOf_32 g1 rfl (Nat.le_of_ble_eq_true rfl) rfl rfl (Nat.le_of_ble_eq_true rfl) ?_
  refine jv_nf 35 [.int r18] rfl rfl ?_
  refine jv_aload_n hC 3 dX12_gainOf_35 rfl ?_
  refine jv_iload hC 1 dX12_gainOf_36 rfl ?_
  refine jv_iload_n hC 5 dX12_gainOf_38 rfl ?_
  obtain ⟨r21, M20, c19, hF⟩ := hb_some hF
  refine jv_callV hC (st := [.int r18]) [.int r7, .int v2] (k_Md_worthOf c19) mm_Md_worthOf mi_Md_worthOf ml_X12_329 dX12_gainOf_39 g1 rfl (Nat.le_of_ble_eq_true rfl) rfl rfl (Nat.le_of_ble_eq_true rfl) ?_
  refine jv_nf 42 [.int r21, .int r18] rfl rfl ?_
  refine jv_isub hC dX12_gainOf_42 ?_
  obtain ⟨x22, e23, hF⟩ := hl_some hF
  refine jv_topI e23 ?_
  refine jv_istore hC [(6, .int x22), (5, .int x14), (4, .int r7), (3, .int r4), (0, .ref v0), (1, .int v1), (2, .int v2)] dX12_gainOf_43 (by decide) rfl ?_
  refine jv_sub [0, 1] (ls' := [(6, .int x22), (5, .int x14)]) rfl ?_
  refine jv_iload hC 1 dX12_gainOf_45 rfl ?_
  refine jv_if_le hC 63 dX12_gainOf_47 (by decide) (fun h24 => ?_) (fun h24 => ?_)
  · have hF := hi_pos h24 hF
    refine jv_iconst hC dX12_gainOf_63 c32_0 ?_
    obtain ⟨rfl, rfl⟩ := hr_some hF
    exact jv_iret hC dX12_gainOf_64
  · have hF := hi_neg h24 hF
    refine jv_iload hC 0 dX12_gainOf_50 rfl ?_
    refine jv_if_le hC 63 dX12_gainOf_52 (by decide) (fun h25 => ?_) (fun h25 => ?_)
    · have hF := hi_pos h25 hF
      refine jv_iconst hC dX12_gainOf_63 c32_0 ?_
      obtain ⟨rfl, rfl⟩ := hr_some hF
      exact jv_iret hC dX12_gainOf_64
    · have hF := hi_neg h25 hF
      refine jv_iload hC 1 dX12_gainOf_55 rfl ?_
      refine jv_iload hC 0 dX12_gainOf_57 rfl ?_
      refine jv_iadd hC dX12_gainOf_59 ?_
      refine jv_goto hC 64 dX12_gainOf_60 (by decide) ?_
      obtain ⟨rfl, rfl⟩ := hr_some hF
      exact jv_iret hC dX12_gainOf_64
set_option maxRecDepth 100000 in
set_option maxHeartbeats 4000000 in
theorem s_Md_tries_4 {X : hm_X} {n : Nat} {S : hm_S} {rP : Nat → Int32 → Int32 → hm_M → Option hm_M} {dP : Nat} (h50 : 50 ≤ dP) (hrP : ∀ (a0 : Nat) (a1 : Int32) (a2 : Int32) (M : hm_M) (M' : hm_M), rP a0 a1 a2 M = some M' → hm_KM yX12_tries cX12_tries 5 none dP n S [.ref a0, .int a1, .int a2] M none M') (hC : hm_C X RX12 cX12_tries 5 none (dP + 1) n S) {k84 : Nat → Int32 → Int32 → Int32 → hm_M → Option hm_M} (hk84 : ∀ (v0 : Nat) (v1 : Int32) (v2 : Int32) (v3 : Int32)  (M : hm_M) (M' : hm_M), k84 v0 v1 v2 v3 M = some M' → hm_U X 84 [(0, .ref v0), (1, .int v1), (2, .int v2), (3, .int v3)] [] M (hm_Q X none M')) {v0 : Nat} {v1 : Int32} {v2 : Int32} {v3 : Int32} {s0 : Int32} {M : hm_M} {M' : hm_M} (hF : b_Md_tries_4 S rP k84 v0 v1 v2 v3 s0 M = some M') : hm_U X 120 [(0, .ref v0), (1, .int v1), (2, .int v2), (3, .int v3)] [.int s0] M (hm_Q X none M') := by
  unfold b_Md_tries_4 at hF
  refine jv_istore hC [(4, .int s0), (0, .ref v0), (1, .int v1), (2, .int v2), (3, .int v3)] dX12_tries_120 (by decide) rfl ?_
  refine jv_iload hC 0 dX12_tries_122 rfl ?_
  refine jv_if_le hC 159 dX12_tries_124 (by decide) (fun h1 => ?_) (fun h1 => ?_)
  · have hF := hi_pos h1 hF
    refine jv_iinc hC 4 [(3, .int (v3 + (1 : Int32))), (4, .int s0), (0, .ref v0), (1, .int v1), (2, .int v2)] dX12_tries_159 rfl c32_1 (by decide) rfl ?_
    refine jv_goto hC 84 dX12_tries_162 (by decide) ?_
    refine jv_sub [2, 3, 4, 0] (ls' := [(0, .ref v0), (1, .int v1), (2, .int v2), (3, .int (v3 + (1 : Int32)))]) rfl ?_
    exact jv_pc 84 rfl (hk84 _ _ _ _ _ _ hF)
  · have hF := hi_neg h1 hF
    refine jv_aload_n hC 1 dX12_tries_127 rfl ?_
    obtain ⟨g2, hF⟩ := hg_some hF
    obtain ⟨g3, hF⟩ := hg_some hF
    refine jv_getR hC fl_X12_112 dX12_tries_128 rfl g2 g3 ?_
    refine jv_iload_n hC 2 dX12_tries_131 rfl ?_
    refine jv_iload_n hC 4 dX12_tries_132 rfl ?_
    obtain ⟨g4, hF⟩ := hg_some hF
    obtain ⟨n5, sn5, in5⟩ := hm_ib_ok g4
    refine jv_iastore hC dX12_tries_133 sn5 in5 ?_
    obtain ⟨M6, e7, hF⟩ := hl_some hF
    refine jv_mem e7 ?_
    refine jv_aload_n hC 1 dX12_tries_134 rfl ?_
    obtain ⟨g8, hF⟩ := hg_some hF
    refine jv_getR hC fl_X12_112 dX12_tries_135 rfl g2 g8 ?_
    refine jv_pc 138 rfl ?_
    refine jv_iload_n hC 4 dX12_tries_138 rfl ?_
    refine jv_iload_n hC 2 dX12_tries_139 rfl ?_
    obtain ⟨g9, hF⟩ := hg_some hF
    obtain ⟨n10, sn10, in10⟩ := hm_ib_ok g9
    refine jv_iastore hC dX12_tries_140 sn10 in10 ?_
    obtain ⟨M11, e12, hF⟩ := hl_some hF
    refine jv_mem e12 ?_
    refine jv_aload_n hC 1 dX12_tries_141 rfl ?_
    refine jv_iload_n hC 2 dX12_tries_142 rfl ?_
    refine jv_iconst hC dX12_tries_143 c32_1 ?_
    refine jv_iadd hC dX12_tries_144 ?_
    refine jv_iload_n hC 3 dX12_tries_145 rfl ?_
    refine jv_pc 146 rfl ?_
    refine jv_iload hC 0 dX12_tries_146 rfl ?_
    refine jv_iadd hC dX12_tries_148 ?_
    obtain ⟨M14, c13, hF⟩ := hv_some hF
    refine jv_callV hC (st := []) [.int (v1 + (1 : Int32)), .int (v2 + s0)] (hrP _ _ _ _ _ c13) mm_Md_tries mi_Md_tries ml_X12_341 dX12_tries_149 g2 rfl (by omega) rfl rfl (Nat.le_of_ble_eq_true rfl) ?_
    refine jv_nf 152 [] rfl rfl ?_
    refine jv_aload_n hC 1 dX12_tries_152 rfl ?_
    obtain ⟨g15, hF⟩ := hg_some hF
    refine jv_getR hC fl_X12_112 dX12_tries_153 rfl g2 g15 ?_
    refine jv_iload_n hC 4 dX12_tries_156 rfl ?_
    refine jv_iconst hC dX12_tries_157 c32_m1 ?_
    obtain ⟨g16, hF⟩ := hg_some hF
    obtain ⟨n17, sn17, in17⟩ := hm_ib_ok g16
    refine jv_iastore hC dX12_tries_158 sn17 in17 ?_
    obtain ⟨M18, e19, hF⟩ := hl_some hF
    refine jv_mem e19 ?_
    refine jv_iinc hC 4 [(3, .int (v3 + (1 : Int32))), (4, .int s0), (0, .ref v0), (1, .int v1), (2, .int v2)] dX12_tries_159 rfl c32_1 (by decide) rfl ?_
    refine jv_goto hC 84 dX12_tries_162 (by decide) ?_
    refine jv_sub [2, 3, 4, 0] (ls' := [(0, .ref v0), (1, .int v1), (2, .int v2), (3, .int (v3 + (1 : Int32)))]) rfl ?_
    exact jv_pc 84 rfl (hk84 _ _ _ _ _ _ hF)
set_option maxRecDepth 100000 in
set_option maxHeartbeats 4000000 in
theorem s_Md_tries_3 {X : hm_X} {n : Nat} {S : hm_S} {rP : Nat → Int32 → Int32 → hm_M → Option hm_M} {dP : Nat} (h50 : 50 ≤ dP) (hrP : ∀ (a0 : Nat) (a1 : Int32) (a2 : Int32) (M : hm_M) (M' : hm_M), rP a0 a1 a2 M = some M' → hm_KM yX12_tries cX12_tries 5 none dP n S [.ref a0, .int a1, .int a2] M none M') (hC : hm_C X RX12 cX12_tries 5 none (dP + 1) n S) {k84 : Nat → Int32 → Int32 → Int32 → hm_M → Option hm_M} (hk84 : ∀ (v0 : Nat) (v1 : Int32) (v2 : Int32) (v3 : Int32)  (M : hm_M) (M' : hm_M), k84 v0 v1 v2 v3 M = some M' → hm_U X 84 [(0, .ref v0), (1, .int v1), (2, .int v2), (3, .int v3)] [] M (hm_Q X none M')) {v0 : Nat} {v1 : Int32} {v2 : Int32} {v3 : Int32} {M : hm_M} {M' : hm_M} (hF : b_Md_tries_3 S rP k84 v0 v1 v2 v3 M = some M') : hm_U X 119 [(0, .ref v0), (1, .int v1), (2, .int v2), (3, .int v3)] [] M (hm_Q X none M') := by
  unfold b_Md_tries_3 at hF
  refine jv_iconst hC dX12_tries_119 c32_0 ?_
  exact jv_pc 120 rfl (s_Md_tries_4 h50 hrP hC hk84 hF)
set_option maxRecDepth 100000 in
set_option maxHeartbeats 4000000 in
theorem t_Md_tries_2 {X : hm_X} {n : Nat} {S : hm_S} {rP : Nat → Int32 → Int32 → hm_M → Option hm_M} {dP : Nat} (h50 : 50 ≤ dP) (hrP : ∀ (a0 : Nat) (a1 : Int32) (a2 : Int32) (M : hm_M) (M' : hm_M), rP a0 a1 a2 M = some M' → hm_KM yX12_tries cX12_tries 5 none dP n S [.ref a0, .int a1, .int a2] M none M') (hC : hm_C X RX12 cX12_tries 5 none (dP + 1) n S) {k84 : Nat → Int32 → Int32 → Int32 → hm_M → Option hm_M} (hk84 : ∀ (v0 : Nat) (v1 : Int32) (v2 : Int32) (v3 : Int32)  (M : hm_M) (M' : hm_M), k84 v0 v1 v2 v3 M = some M' → hm_U X 84 [(0, .ref v0), (1, .int v1), (2, .int v2), (3, .int v3)] [] M (hm_Q X none M')) {v0 : Nat} {v1 : Int32} {v2 : Int32} {v3 : Int32} {M : hm_M} {M' : hm_M} (hF : b_Md_tries_2 S rP k84 v0 v1 v2 v3 M = some M') : hm_U X 84 [(0, .ref v0), (1, .int v1), (2, .int v2), (3, .int v3)] [] M (hm_Q X none M') := by
  unfold b_Md_tries_2 at hF
  refine jv_iload_n hC 3 dX12_tries_84 rfl ?_
  refine jv_aload_n hC 0 dX12_tries_85 rfl ?_
  obtain ⟨g1, hF⟩ := hg_some hF
  obtain ⟨r4, M3, c2, hF⟩ := hb_some hF
  refine jv_callV hC (st := [.int v3]) [] (k_Md_panes c2) mm_Md_panes mi_Md_panes ml_X12_269 dX12_tries_86 g1 rfl (by omega) rfl rfl (Nat.le_of_ble_eq_true rfl) ?_
  refine jv_nf 89 [.int r4, .int v3] rfl rfl ?_
  refine jv_icmp_ge hC 165 dX12_tries_89 (by decide) (fun h5 => ?_) (fun h5 => ?_)
  · have hF := hi_pos h5 hF
    refine jv_aload_n hC 0 dX12_tries_165 rfl ?_
    obtain ⟨g6, hF⟩ := hg_some hF
    refine jv_getR hC fl_X12_112 dX12_tries_166 rfl g1 g6 ?_
    refine jv_iload_n hC 1 dX12_tries_169 rfl ?_
    refine jv_iconst hC dX12_tries_170 c32_m1 ?_
    obtain ⟨g7, hF⟩ := hg_some hF
    obtain ⟨n8, sn8, in8⟩ := hm_ib_ok g7
    refine jv_iastore hC dX12_tries_171 sn8 in8 ?_
    obtain ⟨M9, e10, hF⟩ := hl_some hF
    refine jv_mem e10 ?_
    obtain rfl := hr_somev hF
    exact jv_vret hC dX12_tries_172
  · have hF := hi_neg h5 hF
    refine jv_aload_n hC 0 dX12_tries_92 rfl ?_
    obtain ⟨g11, hF⟩ := hg_some hF
    refine jv_getR hC fl_X12_112 dX12_tries_93 rfl g1 g11 ?_
    refine jv_iload_n hC 3 dX12_tries_96 rfl ?_
    obtain ⟨g12, hF⟩ := hg_some hF
    obtain ⟨n13, sn13, in13⟩ := hm_ib_ok g12
    refine jv_iaload hC dX12_tries_97 sn13 in13 ?_
    refine jv_if_ge hC 119 dX12_tries_98 (by decide) (fun h14 => ?_) (fun h14 => ?_)
    · have hF := hi_pos h14 hF
      exact jv_pc 119 rfl (s_Md_tries_3 h50 hrP hC hk84 hF)
    · have hF := hi_neg h14 hF
      refine jv_aload_n hC 0 dX12_tries_101 rfl ?_
      refine jv_iload_n hC 1 dX12_tries_102 rfl ?_
      refine jv_iload_n hC 3 dX12_tries_103 rfl ?_
      obtain ⟨r17, M16, c15, hF⟩ := hb_some hF
      refine jv_callV hC (st := []) [.int v1, .int v3] (k_Md_areUnlike c15) mm_Md_areUnlike mi_Md_areUnlike ml_X12_332 dX12_tries_104 g1 rfl (by omega) rfl rfl (Nat.le_of_ble_eq_true rfl) ?_
      refine jv_nf 107 [.int r17] rfl rfl ?_
      refine jv_if_eq hC 119 dX12_tries_107 (by decide) (fun h18 => ?_) (fun h18 => ?_)
      · have hF := hi_pos h18 hF
        exact jv_pc 119 rfl (s_Md_tries_3 h50 hrP hC hk84 hF)
      · have hF := hi_neg h18 hF
        refine jv_aload_n hC 0 dX12_tries_110 rfl ?_
        refine jv_iload_n hC 1 dX12_tries_111 rfl ?_
        refine jv_iload_n hC 3 dX12_tries_112 rfl ?_
        obtain ⟨r21, M20, c19, hF⟩ := hb_some hF
        refine jv_callV hC (st := []) [.int v1, .int v3] (k_Md_gainOf c19) mm_Md_gainOf mi_Md_gainOf ml_X12_335 dX12_tries_113 g1 rfl (by omega) rfl rfl (Nat.le_of_ble_eq_true rfl) ?_
        refine jv_nf 116 [.int r21] rfl rfl ?_
        refine jv_goto hC 120 dX12_tries_116 (by decide) ?_
        exact jv_pc 120 rfl (s_Md_tries_4 h50 hrP hC hk84 hF)
theorem s_Md_tries_2 {X : hm_X} {n : Nat} {S : hm_S} {rP : Nat → Int32 → Int32 → hm_M → Option hm_M} {dP : Nat} (h50 : 50 ≤ dP) (hrP : ∀ (a0 : Nat) (a1 : Int32) (a2 : Int32) (M : hm_M) (M' : hm_M), rP a0 a1 a2 M = some M' → hm_KM yX12_tries cX12_tries 5 none dP n S [.ref a0, .int a1, .int a2] M none M') (hC : hm_C X RX12 cX12_tries 5 none (dP + 1) n S) : ∀ (q : Nat) (v0 : Nat) (v1 : Int32) (v2 : Int32) (v3 : Int32) (M : hm_M) (M' : hm_M), f_Md_tries_2 S rP  q v0 v1 v2 v3 M = some M' → hm_U X 84 [(0, .ref v0), (1, .int v1), (2, .int v2), (3, .int v3)] [] M (hm_Q X none M') := by
  intro q
  induction q with
  | zero => intro v0 v1 v2 v3 M M' hF; cases hF
  | succ q ih => intro v0 v1 v2 v3 M M' hF; exact t_Md_tries_2 h50 hrP hC ih hF
set_option maxRecDepth 100000 in
set_option maxHeartbeats 4000000 in
theorem t_Md_tries_1 {X : hm_X} {n : Nat} {S : hm_S} {rP : Nat → Int32 → Int32 → hm_M → Option hm_M} {dP : Nat} (h50 : 50 ≤ dP) (hrP : ∀ (a0 : Nat) (a1 : Int32) (a2 : Int32) (M : hm_M) (M' : hm_M), rP a0 a1 a2 M = some M' → hm_KM yX12_tries cX12_tries 5 none dP n S [.ref a0, .int a1, .int a2] M none M') (hC : hm_C X RX12 cX12_tries 5 none (dP + 1) n S) {k23 : Nat → Int32 → Int32 → hm_M → Option hm_M} (hk23 : ∀ (v0 : Nat) (v1 : Int32) (v3 : Int32)  (M : hm_M) (M' : hm_M), k23 v0 v1 v3 M = some M' → hm_U X 23 [(0, .ref v0), (1, .int v1), (3, .int v3)] [] M (hm_Q X none M')) {v0 : Nat} {v1 : Int32} {v3 : Int32} {M : hm_M} {M' : hm_M} (hF : b_Md_tries_1 S rP k23 v0 v1 v3 M = some M') : hm_U X 23 [(0, .ref v0), (1, .int v1), (3, .int v3)] [] M (hm_Q X none M') := by
  unfold b_Md_tries_1 at hF
  refine jv_iload_n hC 2 dX12_tries_23 rfl ?_
  refine jv_iload_n hC 1 dX12_tries_24 rfl ?_
  refine jv_icmp_ge hC 46 dX12_tries_25 (by decide) (fun h1 => ?_) (fun h1 => ?_)
  · have hF := hi_pos h1 hF
    obtain rfl := hr_somev hF
    exact jv_vret hC dX12_tries_46
  · have hF := hi_neg h1 hF
    refine jv_aload_n hC 0 dX12_tries_28 rfl ?_
    obtain ⟨g2, hF⟩ := hg_some hF
    obtain ⟨g3, hF⟩ := hg_some hF
    refine jv_getR hC fl_X12_115 dX12_tries_29 rfl g2 g3 ?_
    refine jv_iload_n hC 2 dX12_tries_32 rfl ?_
    refine jv_aload_n hC 0 dX12_tries_33 rfl ?_
    obtain ⟨g4, hF⟩ := hg_some hF
    refine jv_getR hC fl_X12_112 dX12_tries_34 rfl g2 g4 ?_
    refine jv_iload_n hC 2 dX12_tries_37 rfl ?_
    obtain ⟨g5, hF⟩ := hg_some hF
    obtain ⟨n6, sn6, in6⟩ := hm_ib_ok g5
    refine jv_iaload hC dX12_tries_38 sn6 in6 ?_
    refine jv_pc 39 rfl ?_
    obtain ⟨g7, hF⟩ := hg_some hF
    obtain ⟨n8, sn8, in8⟩ := hm_ib_ok g7
    refine jv_iastore hC dX12_tries_39 sn8 in8 ?_
    obtain ⟨M9, e10, hF⟩ := hl_some hF
    refine jv_mem e10 ?_
    refine jv_iinc hC 2 [(3, .int (v3 + (1 : Int32))), (0, .ref v0), (1, .int v1)] dX12_tries_40 rfl c32_1 (by decide) rfl ?_
    refine jv_goto hC 23 dX12_tries_43 (by decide) ?_
    refine jv_sub [1, 2, 0] (ls' := [(0, .ref v0), (1, .int v1), (3, .int (v3 + (1 : Int32)))]) rfl ?_
    exact jv_pc 23 rfl (hk23 _ _ _ _ _ hF)
theorem s_Md_tries_1 {X : hm_X} {n : Nat} {S : hm_S} {rP : Nat → Int32 → Int32 → hm_M → Option hm_M} {dP : Nat} (h50 : 50 ≤ dP) (hrP : ∀ (a0 : Nat) (a1 : Int32) (a2 : Int32) (M : hm_M) (M' : hm_M), rP a0 a1 a2 M = some M' → hm_KM yX12_tries cX12_tries 5 none dP n S [.ref a0, .int a1, .int a2] M none M') (hC : hm_C X RX12 cX12_tries 5 none (dP + 1) n S) : ∀ (q : Nat) (v0 : Nat) (v1 : Int32) (v3 : Int32) (M : hm_M) (M' : hm_M), f_Md_tries_1 S rP  q v0 v1 v3 M = some M' → hm_U X 23 [(0, .ref v0), (1, .int v1), (3, .int v3)] [] M (hm_Q X none M') := by
  intro q
  induction q with
  | zero => intro v0 v1 v3 M M' hF; cases hF
  | succ q ih => intro v0 v1 v3 M M' hF; exact t_Md_tries_1 h50 hrP hC ih hF
set_option maxRecDepth 100000 in
set_option maxHeartbeats 4000000 in
theorem ke_Md_tries {n : Nat} {S : hm_S} {rP : Nat → Int32 → Int32 → hm_M → Option hm_M} {dP : Nat} (h50 : 50 ≤ dP) (hrP : ∀ (a0 : Nat) (a1 : Int32) (a2 : Int32) (M : hm_M) (M' : hm_M), rP a0 a1 a2 M = some M' → hm_KM yX12_tries cX12_tries 5 none dP n S [.ref a0, .int a1, .int a2] M none M') {v0 : Nat} {v1 : Int32} {v2 : Int32} {M : hm_M} {M' : hm_M} (hF : e_Md_tries S rP v0 v1 v2 M = some M') : hm_KM yX12_tries cX12_tries 5 none (dP + 1) n S [.ref v0, .int v1, .int v2] M none M' := by
  refine hm_enter mm_Md_tries (Nat.le_of_ble_eq_true rfl) (fun X hC => ?_)
  show hm_U X 0 [(0, .ref v0), (1, .int v1), (2, .int v2)] [] M _
  unfold e_Md_tries at hF
  refine jv_iload_n hC 1 dX12_tries_0 rfl ?_
  refine jv_aload_n hC 0 dX12_tries_1 rfl ?_
  obtain ⟨g1, hF⟩ := hg_some hF
  obtain ⟨r4, M3, c2, hF⟩ := hb_some hF
  refine jv_callV hC (st := [.int v1]) [] (k_Md_panes c2) mm_Md_panes mi_Md_panes ml_X12_269 dX12_tries_2 g1 rfl (by omega) rfl rfl (Nat.le_of_ble_eq_true rfl) ?_
  refine jv_nf 5 [.int r4, .int v1] rfl rfl ?_
  refine jv_icmp_ne hC 47 dX12_tries_5 (by decide) (fun h5 => ?_) (fun h5 => ?_)
  · have hF := hi_neg h5 hF
    refine jv_aload_n hC 0 dX12_tries_47 rfl ?_
    obtain ⟨g6, hF⟩ := hg_some hF
    refine jv_getR hC fl_X12_112 dX12_tries_48 rfl g1 g6 ?_
    refine jv_iload_n hC 1 dX12_tries_51 rfl ?_
    obtain ⟨g7, hF⟩ := hg_some hF
    obtain ⟨n8, sn8, in8⟩ := hm_ib_ok g7
    refine jv_iaload hC dX12_tries_52 sn8 in8 ?_
    refine jv_if_lt hC 65 dX12_tries_53 (by decide) (fun h9 => ?_) (fun h9 => ?_)
    · have hF := hi_pos h9 hF
      refine jv_aload_n hC 0 dX12_tries_65 rfl ?_
      refine jv_getR hC fl_X12_112 dX12_tries_66 rfl g1 g6 ?_
      refine jv_iload_n hC 1 dX12_tries_69 rfl ?_
      refine jv_iload_n hC 1 dX12_tries_70 rfl ?_
      refine jv_iastore hC dX12_tries_71 sn8 in8 ?_
      obtain ⟨M10, e11, hF⟩ := hl_some hF
      refine jv_mem e11 ?_
      refine jv_aload_n hC 0 dX12_tries_72 rfl ?_
      refine jv_iload_n hC 1 dX12_tries_73 rfl ?_
      refine jv_pc 74 rfl ?_
      refine jv_iconst hC dX12_tries_74 c32_1 ?_
      refine jv_iadd hC dX12_tries_75 ?_
      refine jv_iload_n hC 2 dX12_tries_76 rfl ?_
      obtain ⟨M13, c12, hF⟩ := hv_some hF
      refine jv_callV hC (st := []) [.int (v1 + (1 : Int32)), .int v2] (hrP _ _ _ _ _ c12) mm_Md_tries mi_Md_tries ml_X12_341 dX12_tries_77 g1 rfl (by omega) rfl rfl (Nat.le_of_ble_eq_true rfl) ?_
      refine jv_nf 80 [] rfl rfl ?_
      refine jv_iload_n hC 1 dX12_tries_80 rfl ?_
      refine jv_iconst hC dX12_tries_81 c32_1 ?_
      refine jv_iadd hC dX12_tries_82 ?_
      obtain ⟨x14, e15, hF⟩ := hl_some hF
      refine jv_topI e15 ?_
      refine jv_istore_n hC [(3, .int x14), (0, .ref v0), (1, .int v1), (2, .int v2)] dX12_tries_83 (by decide) rfl ?_
      refine jv_sub [1, 2, 3, 0] (ls' := [(0, .ref v0), (1, .int v1), (2, .int v2), (3, .int x14)]) rfl ?_
      exact jv_pc 84 rfl (s_Md_tries_2 h50 hrP hC hN _ _ _ _ _ _ hF)
    · have hF := hi_neg h9 hF
      refine jv_aload_n hC 0 dX12_tries_56 rfl ?_
      refine jv_iload_n hC 1 dX12_tries_57 rfl ?_
      refine jv_iconst hC dX12_tries_58 c32_1 ?_
      refine jv_iadd hC dX12_tries_59 ?_
      refine jv_iload_n hC 2 dX12_tries_60 rfl ?_
      obtain ⟨M17, c16, hF⟩ := hv_some hF
      refine jv_callV hC (st := []) [.int (v1 + (1 : Int32)), .int v2] (hrP _ _ _ _ _ c16) mm_Md_tries mi_Md_tries ml_X12_341 dX12_tries_61 g1 rfl (by omega) rfl rfl (Nat.le_of_ble_eq_true rfl) ?_
      refine jv_nf 64 [] rfl rfl ?_
      obtain rfl := hr_somev hF
      exact jv_vret hC dX12_tries_64
  · have hF := hi_pos h5 hF
    refine jv_iload_n hC 2 dX12_tries_8 rfl ?_
    refine jv_aload_n hC 0 dX12_tries_9 rfl ?_
    refine jv_getI hC fl_X12_338 dX12_tries_10 rfl g1 ?_
    refine jv_icmp_le hC 46 dX12_tries_13 (by decide) (fun h18 => ?_) (fun h18 => ?_)
    · have hF := hi_pos h18 hF
      obtain rfl := hr_somev hF
      exact jv_vret hC dX12_tries_46
    · have hF := hi_neg h18 hF
      refine jv_aload_n hC 0 dX12_tries_16 rfl ?_
      refine jv_iload_n hC 2 dX12_tries_17 rfl ?_
      refine jv_putI hC fl_X12_338 dX12_tries_18 rfl rfl rfl g1 ?_
      obtain ⟨M19, e20, hF⟩ := hl_some hF
      refine jv_mem e20 ?_
      refine jv_iconst hC dX12_tries_21 c32_0 ?_
      refine jv_istore_n hC [(3, .int (0 : Int32)), (0, .ref v0), (1, .int v1), (2, .int v2)] dX12_tries_22 (by decide) rfl ?_
      refine jv_sub [1, 2, 0] (ls' := [(0, .ref v0), (1, .int v1), (3, .int (0 : Int32))]) rfl ?_
      exact jv_pc 23 rfl (s_Md_tries_1 h50 hrP hC hN _ _ _ _ _ hF)
theorem k_Md_tries {n : Nat} {S : hm_S} : ∀ (q : Nat) {v0 : Nat} {v1 : Int32} {v2 : Int32} {M : hm_M} {M' : hm_M}, f_Md_tries S q v0 v1 v2 M = some M' → hm_KM yX12_tries cX12_tries 5 none (50 + 1 * q) n S [.ref v0, .int v1, .int v2] M none M' := by
  intro q
  induction q with
  | zero => intro v0 v1 v2 M M' hF; cases hF
  | succ q ih => intro v0 v1 v2 M M' hF; exact ke_Md_tries (Nat.le_add_right 50 _) (fun _ _ _ _ _ => ih) hF
set_option maxRecDepth 100000 in
set_option maxHeartbeats 4000000 in
theorem t_Md_best_2 {X : hm_X} {n : Nat} {S : hm_S} (hC : hm_C X RX12 cX12_best 3 (some .int) 71 n S) {k26 : Nat → Int32 → Int32 → hm_M → Option (Int32 × hm_M)} (hk26 : ∀ (v0 : Nat) (v1 : Int32) (v2 : Int32)  (M : hm_M) (r : Int32) (M' : hm_M), k26 v0 v1 v2 M = some (r, M') → hm_U X 26 [(0, .ref v0), (1, .int v1), (2, .int v2)] [] M (hm_Q X (some (.int r)) M')) {v0 : Nat} {v1 : Int32} {v2 : Int32} {M : hm_M} {r : Int32} {M' : hm_M} (hF : b_Md_best_2 S k26 v0 v1 v2 M = some (r, M')) : hm_U X 26 [(0, .ref v0), (1, .int v1), (2, .int v2)] [] M (hm_Q X (some (.int r)) M') := by
  unfold b_Md_best_2 at hF
  refine jv_iload_n hC 2 dX12_best_26 rfl ?_
  refine jv_bipush hC dX12_best_27 c8_12 ?_
  refine jv_icmp_ge hC 45 dX12_best_29 (by decide) (fun h1 => ?_) (fun h1 => ?_)
  · have hF := hi_pos h1 hF
    refine jv_aload_n hC 0 dX12_best_45 rfl ?_
    refine jv_iconst hC dX12_best_46 c32_m1 ?_
    obtain ⟨g2, hF⟩ := hg_some hF
    refine jv_putI hC fl_X12_338 dX12_best_47 rfl rfl rfl g2 ?_
    obtain ⟨M3, e4, hF⟩ := hl_some hF
    refine jv_mem e4 ?_
    refine jv_aload_n hC 0 dX12_best_50 rfl ?_
    refine jv_iconst hC dX12_best_51 c32_0 ?_
    refine jv_iconst hC dX12_best_52 c32_0 ?_
    obtain ⟨M6, c5, hF⟩ := hv_some hF
    refine jv_callV hC (st := []) [.int (0 : Int32), .int (0 : Int32)] (k_Md_tries hD c5) mm_Md_tries mi_Md_tries ml_X12_341 dX12_best_53 g2 rfl (Nat.le_of_ble_eq_true rfl) rfl rfl (Nat.le_of_ble_eq_true rfl) ?_
    refine jv_nf 56 [] rfl rfl ?_
    refine jv_iload_n hC 1 dX12_best_56 rfl ?_
    refine jv_iconst hC dX12_best_57 c32_m1 ?_
    refine jv_icmp_ne hC 68 dX12_best_58 (by decide) (fun h7 => ?_) (fun h7 => ?_)
    · have hF := hi_neg h7 hF
      refine jv_aload_n hC 0 dX12_best_68 rfl ?_
      obtain ⟨g8, hF⟩ := hg_some hF
      refine jv_getR hC fl_X12_115 dX12_best_69 rfl g2 g8 ?_
      refine jv_iload_n hC 1 dX12_best_72 rfl ?_
      obtain ⟨g9, hF⟩ := hg_some hF
      obtain ⟨n10, sn10, in10⟩ := hm_ib_ok g9
      refine jv_iaload hC dX12_best_73 sn10 in10 ?_
      obtain ⟨rfl, rfl⟩ := hr_some hF
      exact jv_iret hC dX12_best_74
    · have hF := hi_pos h7 hF
      refine jv_aload_n hC 0 dX12_best_61 rfl ?_
      refine jv_getI hC fl_X12_338 dX12_best_62 rfl g2 ?_
      refine jv_goto hC 74 dX12_best_65 (by decide) ?_
      obtain ⟨rfl, rfl⟩ := hr_some hF
      exact jv_iret hC dX12_best_74
  · have hF := hi_neg h1 hF
    refine jv_aload_n hC 0 dX12_best_32 rfl ?_
    obtain ⟨g11, hF⟩ := hg_some hF
    obtain ⟨g12, hF⟩ := hg_some hF
    refine jv_getR hC fl_X12_112 dX12_best_33 rfl g11 g12 ?_
    refine jv_iload_n hC 2 dX12_best_36 rfl ?_
    refine jv_iconst hC dX12_best_37 c32_m1 ?_
    obtain ⟨g13, hF⟩ := hg_some hF
    obtain ⟨n14, sn14, in14⟩ := hm_ib_ok g13
    refine jv_iastore hC dX12_best_38 sn14 in14 ?_
    obtain ⟨M15, e16, hF⟩ := hl_some hF
    refine jv_mem e16 ?_
    refine jv_iinc hC 2 [(2, .int (v2 + (1 : Int32))), (0, .ref v0), (1, .int v1)] dX12_best_39 rfl c32_1 (by decide) rfl ?_
    refine jv_goto hC 26 dX12_best_42 (by decide) ?_
    refine jv_sub [1, 2, 0] (ls' := [(0, .ref v0), (1, .int v1), (2, .int (v2 + (1 : Int32)))]) rfl ?_
    exact jv_pc 26 rfl (hk26 _ _ _ _ _ _ hF)
theorem s_Md_best_2 {X : hm_X} {n : Nat} {S : hm_S} (hC : hm_C X RX12 cX12_best 3 (some .int) 71 n S) : ∀ (q : Nat) (v0 : Nat) (v1 : Int32) (v2 : Int32) (M : hm_M) (r : Int32) (M' : hm_M), f_Md_best_2 S  q v0 v1 v2 M = some (r, M') → hm_U X 26 [(0, .ref v0), (1, .int v1), (2, .int v2)] [] M (hm_Q X (some (.int r)) M') := by
  intro q
  induction q with
  | zero => intro v0 v1 v2 M r M' hF; cases hF
  | succ q ih => intro v0 v1 v2 M r M' hF; exact t_Md_best_2 hC ih hF
set_option maxRecDepth 100000 in
set_option maxHeartbeats 4000000 in
theorem s_Md_best_1 {X : hm_X} {n : Nat} {S : hm_S} (hC : hm_C X RX12 cX12_best 3 (some .int) 71 n S) {v0 : Nat} {v1 : Int32} {M : hm_M} {r : Int32} {M' : hm_M} (hF : b_Md_best_1 S v0 v1 M = some (r, M')) : hm_U X 20 [(0, .ref v0), (1, .int v1)] [] M (hm_Q X (some (.int r)) M') := by
  unfold b_Md_best_1 at hF
  refine jv_aload_n hC 0 dX12_best_20 rfl ?_
  obtain ⟨g1, hF⟩ := hg_some hF
  obtain ⟨M3, c2, hF⟩ := hv_some hF
  refine jv_callV hC (st := []) [] (k_Md_findYields c2) mm_Md_findYields mi_Md_findYields ml_X12_320 dX12_best_21 g1 rfl (Nat.le_of_ble_eq_true rfl) rfl rfl (Nat.le_of_ble_eq_true rfl) ?_
  refine jv_nf 24 [] rfl rfl ?_
  refine jv_iconst hC dX12_best_24 c32_0 ?_
  refine jv_istore_n hC [(2, .int (0 : Int32)), (0, .ref v0), (1, .int v1)] dX12_best_25 (by decide) rfl ?_
  refine jv_sub [1, 2, 0] (ls' := [(0, .ref v0), (1, .int v1), (2, .int (0 : Int32))]) rfl ?_
  exact jv_pc 26 rfl (s_Md_best_2 hC hN _ _ _ _ _ _ hF)
set_option maxRecDepth 100000 in
set_option maxHeartbeats 4000000 in
theorem k_Md_best {n : Nat} {S : hm_S} {v0 : Nat} {v1 : Int32} {M : hm_M} {r : Int32} {M' : hm_M} (hF : f_Md_best S v0 v1 M = some (r, M')) : hm_KM yX12_best cX12_best 3 (some .int) 71 n S [.ref v0, .int v1] M (some (.int r)) M' := by
  refine hm_enter mm_Md_best (Nat.le_of_ble_eq_true rfl) (fun X hC => ?_)
  show hm_U X 0 [(0, .ref v0), (1, .int v1)] [] M _
  unfold f_Md_best at hF
  refine jv_aload_n hC 0 dX12_best_0 rfl ?_
  refine jv_iconst hC dX12_best_1 c32_0 ?_
  obtain ⟨g1, hF⟩ := hg_some hF
  refine jv_putI hC fl_X12_1 dX12_best_2 rfl rfl rfl g1 ?_
  obtain ⟨M2, e3, hF⟩ := hl_some hF
  refine jv_mem e3 ?_
  refine jv_iload_n hC 1 dX12_best_5 rfl ?_
  refine jv_iconst hC dX12_best_6 c32_m1 ?_
  refine jv_icmp_eq hC 20 dX12_best_7 (by decide) (fun h4 => ?_) (fun h4 => ?_)
  · have hF := hi_pos h4 hF
    exact jv_pc 20 rfl (s_Md_best_1 hC hF)
  · have hF := hi_neg h4 hF
    refine jv_aload_n hC 0 dX12_best_10 rfl ?_
    refine jv_iload_n hC 1 dX12_best_11 rfl ?_
    obtain ⟨r7, M6, c5, hF⟩ := hb_some hF
    refine jv_callV hC (st := []) [.int v1] (k_Md_isPane c5) mm_Md_isPane mi_Md_isPane ml_X12_314 dX12_best_12 g1 rfl (Nat.le_of_ble_eq_true rfl) rfl rfl (Nat.le_of_ble_eq_true rfl) ?_
    refine jv_nf 15 [.int r7] rfl rfl ?_
    refine jv_if_ne hC 20 dX12_best_15 (by decide) (fun h8 => ?_) (fun h8 => ?_)
    · have hF := hi_neg h8 hF
      exact jv_pc 20 rfl (s_Md_best_1 hC hF)
    · have hF := hi_pos h8 hF
      refine jv_iconst hC dX12_best_18 c32_m1 ?_
      obtain ⟨rfl, rfl⟩ := hr_some hF
      exact jv_iret hC dX12_best_19
set_option maxRecDepth 100000 in
set_option maxHeartbeats 4000000 in
theorem t_Md_copies_1 {X : hm_X} {n : Nat} {S : hm_S} (hC : hm_C X RX12 cX12_copies 5 none 1 n S) {k3 : Nat → Int32 → Int32 → Int32 → Int32 → hm_M → Option hm_M} (hk3 : ∀ (v0 : Nat) (v1 : Int32) (v2 : Int32) (v3 : Int32) (v4 : Int32)  (M : hm_M) (M' : hm_M), k3 v0 v1 v2 v3 v4 M = some M' → hm_U X 3 [(0, .ref v0), (1, .int v1), (2, .int v2), (3, .int v3), (4, .int v4)] [] M (hm_Q X none M')) {v0 : Nat} {v1 : Int32} {v2 : Int32} {v3 : Int32} {v4 : Int32} {M : hm_M} {M' : hm_M} (hF : b_Md_copies_1 S k3 v0 v1 v2 v3 v4 M = some M') : hm_U X 3 [(0, .ref v0), (1, .int v1), (2, .int v2), (3, .int v3), (4, .int v4)] [] M (hm_Q X none M') := by
  unfold b_Md_copies_1 at hF
  refine jv_iload hC 4 dX12_copies_3 rfl ?_
  refine jv_iload_n hC 3 dX12_copies_5 rfl ?_
  refine jv_icmp_ge hC 39 dX12_copies_6 (by decide) (fun h1 => ?_) (fun h1 => ?_)
  · have hF := hi_pos h1 hF
    obtain rfl := hr_somev hF
    exact jv_vret hC dX12_copies_39
  · have hF := hi_neg h1 hF
    refine jv_aload_n hC 0 dX12_copies_9 rfl ?_
    obtain ⟨g2, hF⟩ := hg_some hF
    obtain ⟨g3, hF⟩ := hg_some hF
    refine jv_getR hC fl_X12_99 dX12_copies_10 rfl g2 g3 ?_
    refine jv_bipush hC dX12_copies_13 c8_40 ?_
    refine jv_iload_n hC 2 dX12_copies_15 rfl ?_
    refine jv_imul hC dX12_copies_16 ?_
    refine jv_iload hC 4 dX12_copies_17 rfl ?_
    refine jv_iadd hC dX12_copies_19 ?_
    refine jv_pc 20 rfl ?_
    refine jv_aload_n hC 0 dX12_copies_20 rfl ?_
    refine jv_getR hC fl_X12_99 dX12_copies_21 rfl g2 g3 ?_
    refine jv_bipush hC dX12_copies_24 c8_40 ?_
    refine jv_iload_n hC 1 dX12_copies_26 rfl ?_
    refine jv_imul hC dX12_copies_27 ?_
    refine jv_iload hC 4 dX12_copies_28 rfl ?_
    refine jv_iadd hC dX12_copies_30 ?_
    obtain ⟨g4, hF⟩ := hg_some hF
    obtain ⟨n5, sn5, in5⟩ := hm_ib_ok g4
    refine jv_iaload hC dX12_copies_31 sn5 in5 ?_
    refine jv_pc 32 rfl ?_
    obtain ⟨g6, hF⟩ := hg_some hF
    obtain ⟨n7, sn7, in7⟩ := hm_ib_ok g6
    refine jv_iastore hC dX12_copies_32 sn7 in7 ?_
    obtain ⟨M8, e9, hF⟩ := hl_some hF
    refine jv_mem e9 ?_
    refine jv_iinc hC 4 [(4, .int (v4 + (1 : Int32))), (0, .ref v0), (1, .int v1), (2, .int v2), (3, .int v3)] dX12_copies_33 rfl c32_1 (by decide) rfl ?_
    refine jv_goto hC 3 dX12_copies_36 (by decide) ?_
    refine jv_sub [1, 2, 3, 4, 0] (ls' := [(0, .ref v0), (1, .int v1), (2, .int v2), (3, .int v3), (4, .int (v4 + (1 : Int32)))]) rfl ?_
    exact jv_pc 3 rfl (hk3 _ _ _ _ _ _ _ hF)
