/-! by program: the machine runs them -/
theorem s_Md_findStains_9 {X : hm_X} {n : Nat} {S : hm_S} (hC : hm_C X RX12 cX12_findStains 8 (some .int) 5 n S) {k178 : Nat → Int32 → hm_M → Option (Int32 × hm_M)} (hk178 : ∀ (v0 : Nat) (v5 : Int32)  (M : hm_M) (r : Int32) (M' : hm_M), k178 v0 v5 M = some (r, M') → hm_U X 178 [(0, .ref v0), (5, .int v5)] [] M (hm_Q X (some (.int r)) M')) : ∀ (q : Nat) (v0 : Nat) (v5 : Int32) (v6 : Int32) (M : hm_M) (r : Int32) (M' : hm_M), f_Md_findStains_9 S k178 q v0 v5 v6 M = some (r, M') → hm_U X 186 [(0, .ref v0), (5, .int v5), (6, .int v6)] [] M (hm_Q X (some (.int r)) M') := by
  intro q
  induction q with
  | zero => intro v0 v5 v6 M r M' hF; cases hF
  | succ q ih => intro v0 v5 v6 M r M' hF; exact t_Md_findStains_9 hC hk178 ih hF
set_option maxRecDepth 100000 in
set_option maxHeartbeats 4000000 in
theorem t_Md_findStains_8 {X : hm_X} {n : Nat} {S : hm_S} (hC : hm_C X RX12 cX12_findStains 8 (some .int) 5 n S) {k178 : Nat → Int32 → hm_M → Option (Int32 × hm_M)} (hk178 : ∀ (v0 : Nat) (v5 : Int32)  (M : hm_M) (r : Int32) (M' : hm_M), k178 v0 v5 M = some (r, M') → hm_U X 178 [(0, .ref v0), (5, .int v5)] [] M (hm_Q X (some (.int r)) M')) {v0 : Nat} {v5 : Int32} {M : hm_M} {r : Int32} {M' : hm_M} (hF : b_Md_findStains_8 S k178 v0 v5 M = some (r, M')) : hm_U X 178 [(0, .ref v0), (5, .int v5)] [] M (hm_Q X (some (.int r)) M') := by
  unfold b_Md_findStains_8 at hF
  refine jv_iload hC 1 dX12_findStains_178 rfl ?_
  refine jv_if_lt hC 252 dX12_findStains_180 (by decide) (fun h1 => ?_) (fun h1 => ?_)
  · have hF := hi_pos h1 hF
    refine jv_iconst hC dX12_findStains_252 c32_0 ?_
    refine jv_istore hC [(5, .int (0 : Int32)), (0, .ref v0)] dX12_findStains_253 (by decide) rfl ?_
    refine jv_iconst hC dX12_findStains_255 c32_0 ?_
    refine jv_istore hC [(6, .int (0 : Int32)), (5, .int (0 : Int32)), (0, .ref v0)] dX12_findStains_256 (by decide) rfl ?_
    refine jv_sub [2, 1, 0] (ls' := [(0, .ref v0), (5, .int (0 : Int32)), (6, .int (0 : Int32))]) rfl ?_
    exact jv_pc 258 rfl (s_Md_findStains_11 hC hN _ _ _ _ _ _ hF)
  · have hF := hi_neg h1 hF
    refine jv_iconst hC dX12_findStains_183 c32_0 ?_
    refine jv_istore hC [(6, .int (0 : Int32)), (0, .ref v0), (5, .int v5)] dX12_findStains_184 (by decide) rfl ?_
    refine jv_sub [1, 2, 0] (ls' := [(0, .ref v0), (5, .int v5), (6, .int (0 : Int32))]) rfl ?_
    exact jv_pc 186 rfl (s_Md_findStains_9 hC hk178 hN _ _ _ _ _ _ hF)
theorem s_Md_findStains_8 {X : hm_X} {n : Nat} {S : hm_S} (hC : hm_C X RX12 cX12_findStains 8 (some .int) 5 n S) : ∀ (q : Nat) (v0 : Nat) (v5 : Int32) (M : hm_M) (r : Int32) (M' : hm_M), f_Md_findStains_8 S  q v0 v5 M = some (r, M') → hm_U X 178 [(0, .ref v0), (5, .int v5)] [] M (hm_Q X (some (.int r)) M') := by
  intro q
  induction q with
  | zero => intro v0 v5 M r M' hF; cases hF
  | succ q ih => intro v0 v5 M r M' hF; exact t_Md_findStains_8 hC ih hF
set_option maxRecDepth 100000 in
set_option maxHeartbeats 4000000 in
theorem s_Md_findStains_7 {X : hm_X} {n : Nat} {S : hm_S} (hC : hm_C X RX12 cX12_findStains 8 (some .int) 5 n S) {k3 : Nat → Int32 → Int32 → Int32 → Int32 → Int32 → hm_M → Option (Int32 × hm_M)} (hk3 : ∀ (v0 : Nat) (v1 : Int32) (v2 : Int32) (v3 : Int32) (v4 : Int32) (v5 : Int32)  (M : hm_M) (r : Int32) (M' : hm_M), k3 v0 v1 v2 v3 v4 v5 M = some (r, M') → hm_U X 3 [(0, .ref v0), (1, .int v1), (2, .int v2), (3, .int v3), (4, .int v4), (5, .int v5)] [] M (hm_Q X (some (.int r)) M')) {k21 : Nat → Int32 → Int32 → Int32 → Int32 → Int32 → Int32 → hm_M → Option (Int32 × hm_M)} (hk21 : ∀ (v0 : Nat) (v1 : Int32) (v2 : Int32) (v3 : Int32) (v4 : Int32) (v5 : Int32) (v6 : Int32)  (M : hm_M) (r : Int32) (M' : hm_M), k21 v0 v1 v2 v3 v4 v5 v6 M = some (r, M') → hm_U X 21 [(0, .ref v0), (1, .int v1), (2, .int v2), (3, .int v3), (4, .int v4), (5, .int v5), (6, .int v6)] [] M (hm_Q X (some (.int r)) M')) {v0 : Nat} {v1 : Int32} {v2 : Int32} {v3 : Int32} {v4 : Int32} {v5 : Int32} {v6 : Int32} {s0 : Int32} {s1 : Int32} {s2 : Nat} {M : hm_M} {r : Int32} {M' : hm_M} (hF : b_Md_findStains_7 S k3 k21 v0 v1 v2 v3 v4 v5 v6 s0 s1 s2 M = some (r, M')) : hm_U X 160 [(0, .ref v0), (1, .int v1), (2, .int v2), (3, .int v3), (4, .int v4), (5, .int v5), (6, .int v6)] [.int s0, .int s1, .ref s2] M (hm_Q X (some (.int r)) M') := by
  unfold b_Md_findStains_7 at hF
  obtain ⟨g1, hF⟩ := hg_some hF
  obtain ⟨n2, sn2, in2⟩ := hm_ib_ok g1
  refine jv_iastore hC dX12_findStains_160 sn2 in2 ?_
  obtain ⟨M3, e4, hF⟩ := hl_some hF
  refine jv_mem e4 ?_
  refine jv_iinc hC 6 [(6, .int (v6 + (1 : Int32))), (0, .ref v0), (1, .int v1), (2, .int v2), (3, .int v3), (4, .int v4), (5, .int v5)] dX12_findStains_161 rfl c32_1 (by decide) rfl ?_
  refine jv_goto hC 21 dX12_findStains_164 (by decide) ?_
  refine jv_sub [1, 2, 3, 4, 5, 6, 0] (ls' := [(0, .ref v0), (1, .int v1), (2, .int v2), (3, .int v3), (4, .int v4), (5, .int v5), (6, .int (v6 + (1 : Int32)))]) rfl ?_
  exact jv_pc 21 rfl (hk21 _ _ _ _ _ _ _ _ _ _ hF)
set_option maxRecDepth 100000 in
set_option maxHeartbeats 4000000 in
theorem s_Md_findStains_6 {X : hm_X} {n : Nat} {S : hm_S} (hC : hm_C X RX12 cX12_findStains 8 (some .int) 5 n S) {k3 : Nat → Int32 → Int32 → Int32 → Int32 → Int32 → hm_M → Option (Int32 × hm_M)} (hk3 : ∀ (v0 : Nat) (v1 : Int32) (v2 : Int32) (v3 : Int32) (v4 : Int32) (v5 : Int32)  (M : hm_M) (r : Int32) (M' : hm_M), k3 v0 v1 v2 v3 v4 v5 M = some (r, M') → hm_U X 3 [(0, .ref v0), (1, .int v1), (2, .int v2), (3, .int v3), (4, .int v4), (5, .int v5)] [] M (hm_Q X (some (.int r)) M')) {k21 : Nat → Int32 → Int32 → Int32 → Int32 → Int32 → Int32 → hm_M → Option (Int32 × hm_M)} (hk21 : ∀ (v0 : Nat) (v1 : Int32) (v2 : Int32) (v3 : Int32) (v4 : Int32) (v5 : Int32) (v6 : Int32)  (M : hm_M) (r : Int32) (M' : hm_M), k21 v0 v1 v2 v3 v4 v5 v6 M = some (r, M') → hm_U X 21 [(0, .ref v0), (1, .int v1), (2, .int v2), (3, .int v3), (4, .int v4), (5, .int v5), (6, .int v6)] [] M (hm_Q X (some (.int r)) M')) {v0 : Nat} {v1 : Int32} {v2 : Int32} {v3 : Int32} {v4 : Int32} {v5 : Int32} {v6 : Int32} {v7 : Int32} {s0 : Int32} {s1 : Int32} {s2 : Nat} {M : hm_M} {r : Int32} {M' : hm_M} (hF : b_Md_findStains_6 S k3 k21 v0 v1 v2 v3 v4 v5 v6 v7 s0 s1 s2 M = some (r, M')) : hm_U X 137 [(0, .ref v0), (1, .int v1), (2, .int v2), (3, .int v3), (4, .int v4), (5, .int v5), (6, .int v6), (7, .int v7)] [.int s0, .int s1, .ref s2] M (hm_Q X (some (.int r)) M') := by
  unfold b_Md_findStains_6 at hF
  obtain ⟨g1, hF⟩ := hg_some hF
  obtain ⟨n2, sn2, in2⟩ := hm_ib_ok g1
  refine jv_iastore hC dX12_findStains_137 sn2 in2 ?_
  obtain ⟨M3, e4, hF⟩ := hl_some hF
  refine jv_mem e4 ?_
  refine jv_aload_n hC 0 dX12_findStains_138 rfl ?_
  obtain ⟨g5, hF⟩ := hg_some hF
  obtain ⟨g6, hF⟩ := hg_some hF
  refine jv_getR hC fl_X12_127 dX12_findStains_139 rfl g5 g6 ?_
  refine jv_bipush hC dX12_findStains_142 c8_64 ?_
  refine jv_iload hC 5 dX12_findStains_144 rfl ?_
  refine jv_imul hC dX12_findStains_146 ?_
  refine jv_iload hC 6 dX12_findStains_147 rfl ?_
  refine jv_pc 149 rfl ?_
  refine jv_iadd hC dX12_findStains_149 ?_
  refine jv_iload hC 7 dX12_findStains_150 rfl ?_
  refine jv_if_eq hC 159 dX12_findStains_152 (by decide) (fun h7 => ?_) (fun h7 => ?_)
  · have hF := hi_pos h7 hF
    refine jv_iconst hC dX12_findStains_159 c32_0 ?_
    refine jv_sub [0, 1, 2, 3, 4, 5, 6] (ls' := [(0, .ref v0), (1, .int v1), (2, .int v2), (3, .int v3), (4, .int v4), (5, .int v5), (6, .int v6)]) rfl ?_
    exact jv_pc 160 rfl (s_Md_findStains_7 hC hk3 hk21 hF)
  · have hF := hi_neg h7 hF
    refine jv_iconst hC dX12_findStains_155 c32_1 ?_
    refine jv_goto hC 160 dX12_findStains_156 (by decide) ?_
    refine jv_sub [0, 1, 2, 3, 4, 5, 6] (ls' := [(0, .ref v0), (1, .int v1), (2, .int v2), (3, .int v3), (4, .int v4), (5, .int v5), (6, .int v6)]) rfl ?_
    exact jv_pc 160 rfl (s_Md_findStains_7 hC hk3 hk21 hF)
set_option maxRecDepth 100000 in
set_option maxHeartbeats 4000000 in
theorem s_Md_findStains_5 {X : hm_X} {n : Nat} {S : hm_S} (hC : hm_C X RX12 cX12_findStains 8 (some .int) 5 n S) {k3 : Nat → Int32 → Int32 → Int32 → Int32 → Int32 → hm_M → Option (Int32 × hm_M)} (hk3 : ∀ (v0 : Nat) (v1 : Int32) (v2 : Int32) (v3 : Int32) (v4 : Int32) (v5 : Int32)  (M : hm_M) (r : Int32) (M' : hm_M), k3 v0 v1 v2 v3 v4 v5 M = some (r, M') → hm_U X 3 [(0, .ref v0), (1, .int v1), (2, .int v2), (3, .int v3), (4, .int v4), (5, .int v5)] [] M (hm_Q X (some (.int r)) M')) {k21 : Nat → Int32 → Int32 → Int32 → Int32 → Int32 → Int32 → hm_M → Option (Int32 × hm_M)} (hk21 : ∀ (v0 : Nat) (v1 : Int32) (v2 : Int32) (v3 : Int32) (v4 : Int32) (v5 : Int32) (v6 : Int32)  (M : hm_M) (r : Int32) (M' : hm_M), k21 v0 v1 v2 v3 v4 v5 v6 M = some (r, M') → hm_U X 21 [(0, .ref v0), (1, .int v1), (2, .int v2), (3, .int v3), (4, .int v4), (5, .int v5), (6, .int v6)] [] M (hm_Q X (some (.int r)) M')) {v0 : Nat} {v1 : Int32} {v2 : Int32} {v3 : Int32} {v4 : Int32} {v5 : Int32} {v6 : Int32} {v7 : Int32} {s0 : Int32} {s1 : Int32} {s2 : Nat} {M : hm_M} {r : Int32} {M' : hm_M} (hF : b_Md_findStains_5 S k3 k21 v0 v1 v2 v3 v4 v5 v6 v7 s0 s1 s2 M = some (r, M')) : hm_U X 92 [(0, .ref v0), (1, .int v1), (2, .int v2), (3, .int v3), (4, .int v4), (5, .int v5), (6, .int v6), (7, .int v7)] [.int s0, .int s1, .ref s2] M (hm_Q X (some (.int r)) M') := by
  unfold b_Md_findStains_5 at hF
  obtain ⟨g1, hF⟩ := hg_some hF
  obtain ⟨n2, sn2, in2⟩ := hm_ib_ok g1
  refine jv_iastore hC dX12_findStains_92 sn2 in2 ?_
  obtain ⟨M3, e4, hF⟩ := hl_some hF
  refine jv_mem e4 ?_
  refine jv_aload_n hC 0 dX12_findStains_93 rfl ?_
  obtain ⟨g5, hF⟩ := hg_some hF
  obtain ⟨g6, hF⟩ := hg_some hF
  refine jv_getR hC fl_X12_124 dX12_findStains_94 rfl g5 g6 ?_
  refine jv_bipush hC dX12_findStains_97 c8_64 ?_
  refine jv_iload hC 5 dX12_findStains_99 rfl ?_
  refine jv_imul hC dX12_findStains_101 ?_
  refine jv_iload hC 6 dX12_findStains_102 rfl ?_
  refine jv_pc 104 rfl ?_
  refine jv_iadd hC dX12_findStains_104 ?_
  refine jv_iload hC 7 dX12_findStains_105 rfl ?_
  refine jv_if_ne hC 114 dX12_findStains_107 (by decide) (fun h7 => ?_) (fun h7 => ?_)
  · have hF := hi_neg h7 hF
    refine jv_iload hC 5 dX12_findStains_114 rfl ?_
    refine jv_if_ne hC 123 dX12_findStains_116 (by decide) (fun h8 => ?_) (fun h8 => ?_)
    · have hF := hi_neg h8 hF
      refine jv_aload_n hC 0 dX12_findStains_123 rfl ?_
      refine jv_aload_n hC 0 dX12_findStains_124 rfl ?_
      refine jv_getR hC fl_X12_124 dX12_findStains_125 rfl g5 g6 ?_
      refine jv_iload hC 5 dX12_findStains_128 rfl ?_
      refine jv_iconst hC dX12_findStains_130 c32_1 ?_
      refine jv_isub hC dX12_findStains_131 ?_
      refine jv_iload hC 6 dX12_findStains_132 rfl ?_
      refine jv_pc 134 rfl ?_
      obtain ⟨r11, M10, c9, hF⟩ := hb_some hF
      refine jv_callV hC (st := [.int (((64 : Int32) * v5) + v6), .ref (M3.2.2 v0 31)]) [.ref (M3.2.2 v0 31), .int (v5 - (1 : Int32)), .int v6] (k_Md_near c9) mm_Md_near mi_Md_near ml_X12_370 dX12_findStains_134 g5 rfl (Nat.le_of_ble_eq_true rfl) rfl rfl (Nat.le_of_ble_eq_true rfl) ?_
      refine jv_nf 137 [.int r11, .int (((64 : Int32) * v5) + v6), .ref (M3.2.2 v0 31)] rfl rfl ?_
      exact jv_pc 137 rfl (s_Md_findStains_6 hC hk3 hk21 hF)
    · have hF := hi_pos h8 hF
      refine jv_iconst hC dX12_findStains_119 c32_1 ?_
      refine jv_goto hC 137 dX12_findStains_120 (by decide) ?_
      exact jv_pc 137 rfl (s_Md_findStains_6 hC hk3 hk21 hF)
  · have hF := hi_pos h7 hF
    refine jv_iconst hC dX12_findStains_110 c32_0 ?_
    refine jv_goto hC 137 dX12_findStains_111 (by decide) ?_
    exact jv_pc 137 rfl (s_Md_findStains_6 hC hk3 hk21 hF)
set_option maxRecDepth 100000 in
set_option maxHeartbeats 4000000 in
theorem s_Md_findStains_4 {X : hm_X} {n : Nat} {S : hm_S} (hC : hm_C X RX12 cX12_findStains 8 (some .int) 5 n S) {k3 : Nat → Int32 → Int32 → Int32 → Int32 → Int32 → hm_M → Option (Int32 × hm_M)} (hk3 : ∀ (v0 : Nat) (v1 : Int32) (v2 : Int32) (v3 : Int32) (v4 : Int32) (v5 : Int32)  (M : hm_M) (r : Int32) (M' : hm_M), k3 v0 v1 v2 v3 v4 v5 M = some (r, M') → hm_U X 3 [(0, .ref v0), (1, .int v1), (2, .int v2), (3, .int v3), (4, .int v4), (5, .int v5)] [] M (hm_Q X (some (.int r)) M')) {k21 : Nat → Int32 → Int32 → Int32 → Int32 → Int32 → Int32 → hm_M → Option (Int32 × hm_M)} (hk21 : ∀ (v0 : Nat) (v1 : Int32) (v2 : Int32) (v3 : Int32) (v4 : Int32) (v5 : Int32) (v6 : Int32)  (M : hm_M) (r : Int32) (M' : hm_M), k21 v0 v1 v2 v3 v4 v5 v6 M = some (r, M') → hm_U X 21 [(0, .ref v0), (1, .int v1), (2, .int v2), (3, .int v3), (4, .int v4), (5, .int v5), (6, .int v6)] [] M (hm_Q X (some (.int r)) M')) {v0 : Nat} {v1 : Int32} {v2 : Int32} {v3 : Int32} {v4 : Int32} {v5 : Int32} {v6 : Int32} {s0 : Int32} {M : hm_M} {r : Int32} {M' : hm_M} (hF : b_Md_findStains_4 S k3 k21 v0 v1 v2 v3 v4 v5 v6 s0 M = some (r, M')) : hm_U X 62 [(0, .ref v0), (1, .int v1), (2, .int v2), (3, .int v3), (4, .int v4), (5, .int v5), (6, .int v6)] [.int s0] M (hm_Q X (some (.int r)) M') := by
  unfold b_Md_findStains_4 at hF
  refine jv_istore hC [(7, .int s0), (0, .ref v0), (1, .int v1), (2, .int v2), (3, .int v3), (4, .int v4), (5, .int v5), (6, .int v6)] dX12_findStains_62 (by decide) rfl ?_
  refine jv_aload_n hC 1 dX12_findStains_64 rfl ?_
  obtain ⟨g1, hF⟩ := hg_some hF
  obtain ⟨g2, hF⟩ := hg_some hF
  refine jv_getR hC fl_X12_130 dX12_findStains_65 rfl g1 g2 ?_
  refine jv_bipush hC dX12_findStains_68 c8_64 ?_
  refine jv_iload hC 6 dX12_findStains_70 rfl ?_
  refine jv_imul hC dX12_findStains_72 ?_
  refine jv_iload hC 7 dX12_findStains_73 rfl ?_
  refine jv_pc 75 rfl ?_
  refine jv_iadd hC dX12_findStains_75 ?_
  refine jv_iload hC 0 dX12_findStains_76 rfl ?_
  refine jv_if_eq hC 91 dX12_findStains_78 (by decide) (fun h3 => ?_) (fun h3 => ?_)
  · have hF := hi_pos h3 hF
    refine jv_iconst hC dX12_findStains_91 c32_0 ?_
    refine jv_sub [1, 2, 3, 4, 5, 6, 7, 0] (ls' := [(0, .ref v0), (1, .int v1), (2, .int v2), (3, .int v3), (4, .int v4), (5, .int v5), (6, .int v6), (7, .int s0)]) rfl ?_
    exact jv_pc 92 rfl (s_Md_findStains_5 hC hk3 hk21 hF)
  · have hF := hi_neg h3 hF
    refine jv_aload_n hC 1 dX12_findStains_81 rfl ?_
    refine jv_iload hC 7 dX12_findStains_82 rfl ?_
    refine jv_iconst hC dX12_findStains_84 c32_0 ?_
    obtain ⟨r6, M5, c4, hF⟩ := hb_some hF
    refine jv_callV hC (st := [.int (((64 : Int32) * v5) + v6), .ref (M.2.2 v0 33)]) [.int v6, .int (0 : Int32)] (k_Md_lightAt c4) mm_Md_lightAt mi_Md_lightAt ml_X12_301 dX12_findStains_85 g1 rfl (Nat.le_of_ble_eq_true rfl) rfl rfl (Nat.le_of_ble_eq_true rfl) ?_
    refine jv_nf 88 [.int r6, .int (((64 : Int32) * v5) + v6), .ref (M.2.2 v0 33)] rfl rfl ?_
    refine jv_goto hC 92 dX12_findStains_88 (by decide) ?_
    refine jv_sub [1, 2, 3, 4, 5, 6, 7, 0] (ls' := [(0, .ref v0), (1, .int v1), (2, .int v2), (3, .int v3), (4, .int v4), (5, .int v5), (6, .int v6), (7, .int s0)]) rfl ?_
    exact jv_pc 92 rfl (s_Md_findStains_5 hC hk3 hk21 hF)
set_option maxRecDepth 100000 in
set_option maxHeartbeats 4000000 in
theorem s_Md_findStains_3 {X : hm_X} {n : Nat} {S : hm_S} (hC : hm_C X RX12 cX12_findStains 8 (some .int) 5 n S) {k3 : Nat → Int32 → Int32 → Int32 → Int32 → Int32 → hm_M → Option (Int32 × hm_M)} (hk3 : ∀ (v0 : Nat) (v1 : Int32) (v2 : Int32) (v3 : Int32) (v4 : Int32) (v5 : Int32)  (M : hm_M) (r : Int32) (M' : hm_M), k3 v0 v1 v2 v3 v4 v5 M = some (r, M') → hm_U X 3 [(0, .ref v0), (1, .int v1), (2, .int v2), (3, .int v3), (4, .int v4), (5, .int v5)] [] M (hm_Q X (some (.int r)) M')) {k21 : Nat → Int32 → Int32 → Int32 → Int32 → Int32 → Int32 → hm_M → Option (Int32 × hm_M)} (hk21 : ∀ (v0 : Nat) (v1 : Int32) (v2 : Int32) (v3 : Int32) (v4 : Int32) (v5 : Int32) (v6 : Int32)  (M : hm_M) (r : Int32) (M' : hm_M), k21 v0 v1 v2 v3 v4 v5 v6 M = some (r, M') → hm_U X 21 [(0, .ref v0), (1, .int v1), (2, .int v2), (3, .int v3), (4, .int v4), (5, .int v5), (6, .int v6)] [] M (hm_Q X (some (.int r)) M')) {v0 : Nat} {v1 : Int32} {v2 : Int32} {v3 : Int32} {v4 : Int32} {v5 : Int32} {v6 : Int32} {M : hm_M} {r : Int32} {M' : hm_M} (hF : b_Md_findStains_3 S k3 k21 v0 v1 v2 v3 v4 v5 v6 M = some (r, M')) : hm_U X 61 [(0, .ref v0), (1, .int v1), (2, .int v2), (3, .int v3), (4, .int v4), (5, .int v5), (6, .int v6)] [] M (hm_Q X (some (.int r)) M') := by
  unfold b_Md_findStains_3 at hF
  refine jv_iconst hC dX12_findStains_61 c32_0 ?_
  exact jv_pc 62 rfl (s_Md_findStains_4 hC hk3 hk21 hF)
set_option maxRecDepth 100000 in
set_option maxHeartbeats 4000000 in
theorem t_Md_findStains_2 {X : hm_X} {n : Nat} {S : hm_S} (hC : hm_C X RX12 cX12_findStains 8 (some .int) 5 n S) {k3 : Nat → Int32 → Int32 → Int32 → Int32 → Int32 → hm_M → Option (Int32 × hm_M)} (hk3 : ∀ (v0 : Nat) (v1 : Int32) (v2 : Int32) (v3 : Int32) (v4 : Int32) (v5 : Int32)  (M : hm_M) (r : Int32) (M' : hm_M), k3 v0 v1 v2 v3 v4 v5 M = some (r, M') → hm_U X 3 [(0, .ref v0), (1, .int v1), (2, .int v2), (3, .int v3), (4, .int v4), (5, .int v5)] [] M (hm_Q X (some (.int r)) M')) {k21 : Nat → Int32 → Int32 → Int32 → Int32 → Int32 → Int32 → hm_M → Option (Int32 × hm_M)} (hk21 : ∀ (v0 : Nat) (v1 : Int32) (v2 : Int32) (v3 : Int32) (v4 : Int32) (v5 : Int32) (v6 : Int32)  (M : hm_M) (r : Int32) (M' : hm_M), k21 v0 v1 v2 v3 v4 v5 v6 M = some (r, M') → hm_U X 21 [(0, .ref v0), (1, .int v1), (2, .int v2), (3, .int v3), (4, .int v4), (5, .int v5), (6, .int v6)] [] M (hm_Q X (some (.int r)) M')) {v0 : Nat} {v1 : Int32} {v2 : Int32} {v3 : Int32} {v4 : Int32} {v5 : Int32} {v6 : Int32} {M : hm_M} {r : Int32} {M' : hm_M} (hF : b_Md_findStains_2 S k3 k21 v0 v1 v2 v3 v4 v5 v6 M = some (r, M')) : hm_U X 21 [(0, .ref v0), (1, .int v1), (2, .int v2), (3, .int v3), (4, .int v4), (5, .int v5), (6, .int v6)] [] M (hm_Q X (some (.int r)) M') := by
  unfold b_Md_findStains_2 at hF
  refine jv_iload hC 6 dX12_findStains_21 rfl ?_
  refine jv_bipush hC dX12_findStains_23 c8_64 ?_
  refine jv_icmp_ge hC 167 dX12_findStains_25 (by decide) (fun h1 => ?_) (fun h1 => ?_)
  · have hF := hi_pos h1 hF
    refine jv_iinc hC 5 [(5, .int (v5 + (1 : Int32))), (0, .ref v0), (1, .int v1), (2, .int v2), (3, .int v3), (4, .int v4), (6, .int v6)] dX12_findStains_167 rfl c32_1 (by decide) rfl ?_
    refine jv_goto hC 3 dX12_findStains_170 (by decide) ?_
    refine jv_sub [1, 2, 3, 4, 5, 0] (ls' := [(0, .ref v0), (1, .int v1), (2, .int v2), (3, .int v3), (4, .int v4), (5, .int (v5 + (1 : Int32)))]) rfl ?_
    exact jv_pc 3 rfl (hk3 _ _ _ _ _ _ _ _ _ hF)
  · have hF := hi_neg h1 hF
    refine jv_aload_n hC 0 dX12_findStains_28 rfl ?_
    refine jv_iload hC 6 dX12_findStains_29 rfl ?_
    obtain ⟨g2, hF⟩ := hg_some hF
    obtain ⟨r5, M4, c3, hF⟩ := hb_some hF
    refine jv_callV hC (st := []) [.int v6] (k_Md_isPlace c3) mm_Md_isPlace mi_Md_isPlace ml_X12_350 dX12_findStains_31 g2 rfl (Nat.le_of_ble_eq_true rfl) rfl rfl (Nat.le_of_ble_eq_true rfl) ?_
    refine jv_nf 34 [.int r5] rfl rfl ?_
    refine jv_if_eq hC 61 dX12_findStains_34 (by decide) (fun h6 => ?_) (fun h6 => ?_)
    · have hF := hi_pos h6 hF
      exact jv_pc 61 rfl (s_Md_findStains_3 hC hk3 hk21 hF)
    · have hF := hi_neg h6 hF
      refine jv_aload_n hC 0 dX12_findStains_37 rfl ?_
      refine jv_iload hC 6 dX12_findStains_38 rfl ?_
      refine jv_iconst hC dX12_findStains_40 c32_1 ?_
      obtain ⟨r9, M8, c7, hF⟩ := hb_some hF
      refine jv_callV hC (st := []) [.int v6, .int (1 : Int32)] (k_Md_lightAt c7) mm_Md_lightAt mi_Md_lightAt ml_X12_301 dX12_findStains_41 g2 rfl (Nat.le_of_ble_eq_true rfl) rfl rfl (Nat.le_of_ble_eq_true rfl) ?_
      refine jv_nf 44 [.int r9] rfl rfl ?_
      refine jv_iload hC 4 dX12_findStains_44 rfl ?_
      refine jv_iconst hC dX12_findStains_46 c32_3 ?_
      refine jv_iload hC 5 dX12_findStains_47 rfl ?_
      refine jv_imul hC dX12_findStains_49 ?_
      refine jv_ishr hC dX12_findStains_50 ?_
      refine jv_bipush hC dX12_findStains_51 c8_7 ?_
      refine jv_iand hC dX12_findStains_53 ?_
      refine jv_pc 54 rfl ?_
      refine jv_icmp_ne hC 61 dX12_findStains_54 (by decide) (fun h10 => ?_) (fun h10 => ?_)
      · have hF := hi_neg h10 hF
        exact jv_pc 61 rfl (s_Md_findStains_3 hC hk3 hk21 hF)
      · have hF := hi_pos h10 hF
        refine jv_iconst hC dX12_findStains_57 c32_1 ?_
        refine jv_goto hC 62 dX12_findStains_58 (by decide) ?_
        exact jv_pc 62 rfl (s_Md_findStains_4 hC hk3 hk21 hF)
theorem s_Md_findStains_2 {X : hm_X} {n : Nat} {S : hm_S} (hC : hm_C X RX12 cX12_findStains 8 (some .int) 5 n S) {k3 : Nat → Int32 → Int32 → Int32 → Int32 → Int32 → hm_M → Option (Int32 × hm_M)} (hk3 : ∀ (v0 : Nat) (v1 : Int32) (v2 : Int32) (v3 : Int32) (v4 : Int32) (v5 : Int32)  (M : hm_M) (r : Int32) (M' : hm_M), k3 v0 v1 v2 v3 v4 v5 M = some (r, M') → hm_U X 3 [(0, .ref v0), (1, .int v1), (2, .int v2), (3, .int v3), (4, .int v4), (5, .int v5)] [] M (hm_Q X (some (.int r)) M')) : ∀ (q : Nat) (v0 : Nat) (v1 : Int32) (v2 : Int32) (v3 : Int32) (v4 : Int32) (v5 : Int32) (v6 : Int32) (M : hm_M) (r : Int32) (M' : hm_M), f_Md_findStains_2 S k3 q v0 v1 v2 v3 v4 v5 v6 M = some (r, M') → hm_U X 21 [(0, .ref v0), (1, .int v1), (2, .int v2), (3, .int v3), (4, .int v4), (5, .int v5), (6, .int v6)] [] M (hm_Q X (some (.int r)) M') := by
  intro q
  induction q with
  | zero => intro v0 v1 v2 v3 v4 v5 v6 M r M' hF; cases hF
  | succ q ih => intro v0 v1 v2 v3 v4 v5 v6 M r M' hF; exact t_Md_findStains_2 hC hk3 ih hF
set_option maxRecDepth 100000 in
set_option maxHeartbeats 4000000 in
theorem t_Md_findStains_1 {X : hm_X} {n : Nat} {S : hm_S} (hC : hm_C X RX12 cX12_findStains 8 (some .int) 5 n S) {k3 : Nat → Int32 → Int32 → Int32 → Int32 → Int32 → hm_M → Option (Int32 × hm_M)} (hk3 : ∀ (v0 : Nat) (v1 : Int32) (v2 : Int32) (v3 : Int32) (v4 : Int32) (v5 : Int32)  (M : hm_M) (r : Int32) (M' : hm_M), k3 v0 v1 v2 v3 v4 v5 M = some (r, M') → hm_U X 3 [(0, .ref v0), (1, .int v1), (2, .int v2), (3, .int v3), (4, .int v4), (5, .int v5)] [] M (hm_Q X (some (.int r)) M')) {v0 : Nat} {v1 : Int32} {v2 : Int32} {v3 : Int32} {v4 : Int32} {v5 : Int32} {M : hm_M} {r : Int32} {M' : hm_M} (hF : b_Md_findStains_1 S k3 v0 v1 v2 v3 v4 v5 M = some (r, M')) : hm_U X 3 [(0, .ref v0), (1, .int v1), (2, .int v2), (3, .int v3), (4, .int v4), (5, .int v5)] [] M (hm_Q X (some (.int r)) M') := by
  unfold b_Md_findStains_1 at hF
  refine jv_iload hC 5 dX12_findStains_3 rfl ?_
  refine jv_iload_n hC 3 dX12_findStains_5 rfl ?_
  refine jv_icmp_ge hC 173 dX12_findStains_6 (by decide) (fun h1 => ?_) (fun h1 => ?_)
  · have hF := hi_pos h1 hF
    refine jv_iload_n hC 3 dX12_findStains_173 rfl ?_
    refine jv_iconst hC dX12_findStains_174 c32_2 ?_
    refine jv_isub hC dX12_findStains_175 ?_
    obtain ⟨x2, e3, hF⟩ := hl_some hF
    refine jv_topI e3 ?_
    refine jv_istore hC [(5, .int x2), (0, .ref v0), (1, .int v1), (2, .int v2), (3, .int v3), (4, .int v4)] dX12_findStains_176 (by decide) rfl ?_
    refine jv_sub [1, 0] (ls' := [(0, .ref v0), (5, .int x2)]) rfl ?_
    exact jv_pc 178 rfl (s_Md_findStains_8 hC hN _ _ _ _ _ hF)
  · have hF := hi_neg h1 hF
    refine jv_aload_n hC 0 dX12_findStains_9 rfl ?_
    refine jv_iload_n hC 1 dX12_findStains_10 rfl ?_
    refine jv_iload_n hC 2 dX12_findStains_11 rfl ?_
    refine jv_iload hC 5 dX12_findStains_12 rfl ?_
    refine jv_iadd hC dX12_findStains_14 ?_
    obtain ⟨g4, hF⟩ := hg_some hF
    obtain ⟨M6, c5, hF⟩ := hv_some hF
    refine jv_callV hC (st := []) [.int v1, .int (v2 + v5)] (k_Md_findLight c5) mm_Md_findLight mi_Md_findLight ml_X12_298 dX12_findStains_15 g4 rfl (Nat.le_of_ble_eq_true rfl) rfl rfl (Nat.le_of_ble_eq_true rfl) ?_
    refine jv_nf 18 [] rfl rfl ?_
    refine jv_iconst hC dX12_findStains_18 c32_0 ?_
    refine jv_istore hC [(6, .int (0 : Int32)), (0, .ref v0), (1, .int v1), (2, .int v2), (3, .int v3), (4, .int v4), (5, .int v5)] dX12_findStains_19 (by decide) rfl ?_
    refine jv_sub [1, 2, 3, 4, 5, 6, 0] (ls' := [(0, .ref v0), (1, .int v1), (2, .int v2), (3, .int v3), (4, .int v4), (5, .int v5), (6, .int (0 : Int32))]) rfl ?_
    exact jv_pc 21 rfl (s_Md_findStains_2 hC hk3 hN _ _ _ _ _ _ _ _ _ _ hF)
theorem s_Md_findStains_1 {X : hm_X} {n : Nat} {S : hm_S} (hC : hm_C X RX12 cX12_findStains 8 (some .int) 5 n S) : ∀ (q : Nat) (v0 : Nat) (v1 : Int32) (v2 : Int32) (v3 : Int32) (v4 : Int32) (v5 : Int32) (M : hm_M) (r : Int32) (M' : hm_M), f_Md_findStains_1 S  q v0 v1 v2 v3 v4 v5 M = some (r, M') → hm_U X 3 [(0, .ref v0), (1, .int v1), (2, .int v2), (3, .int v3), (4, .int v4), (5, .int v5)] [] M (hm_Q X (some (.int r)) M') := by
  intro q
  induction q with
  | zero => intro v0 v1 v2 v3 v4 v5 M r M' hF; cases hF
  | succ q ih => intro v0 v1 v2 v3 v4 v5 M r M' hF; exact t_Md_findStains_1 hC ih hF
set_option maxRecDepth 100000 in
set_option maxHeartbeats 4000000 in
theorem k_Md_findStains {n : Nat} {S : hm_S} {v0 : Nat} {v1 : Int32} {v2 : Int32} {v3 : Int32} {v4 : Int32} {M : hm_M} {r : Int32} {M' : hm_M} (hF : f_Md_findStains S v0 v1 v2 v3 v4 M = some (r, M')) : hm_KM yX12_findStains cX12_findStains 8 (some .int) 5 n S [.ref v0, .int v1, .int v2, .int v3, .int v4] M (some (.int r)) M' := by
  refine hm_enter mm_Md_findStains (Nat.le_of_ble_eq_true rfl) (fun X hC => ?_)
  show hm_U X 0 [(0, .ref v0), (1, .int v1), (2, .int v2), (3, .int v3), (4, .int v4)] [] M _
  unfold f_Md_findStains at hF
  refine jv_iconst hC dX12_findStains_0 c32_0 ?_
  refine jv_istore hC [(5, .int (0 : Int32)), (0, .ref v0), (1, .int v1), (2, .int v2), (3, .int v3), (4, .int v4)] dX12_findStains_1 (by decide) rfl ?_
  refine jv_sub [1, 2, 3, 4, 5, 0] (ls' := [(0, .ref v0), (1, .int v1), (2, .int v2), (3, .int v3), (4, .int v4), (5, .int (0 : Int32))]) rfl ?_
  exact jv_pc 3 rfl (s_Md_findStains_1 hC hN _ _ _ _ _ _ _ _ _ hF)
set_option maxRecDepth 100000 in
set_option maxHeartbeats 4000000 in
theorem k_Md_gain {n : Nat} {S : hm_S} {v0 : Nat} {v1 : Int32} {v2 : Int32} {M : hm_M} {r : Int32} {M' : hm_M} (hF : f_Md_gain S v0 v1 v2 M = some (r, M')) : hm_KM yX12_gain cX12_gain 3 (some .int) 7 n S [.ref v0, .int v1, .int v2] M (some (.int r)) M' := by
  refine hm_enter mm_Md_gain (Nat.le_of_ble_eq_true rfl) (fun X hC => ?_)
  show hm_U X 0 [(0, .ref v0), (1, .int v1), (2, .int v2)] [] M _
  unfold f_Md_gain at hF
  refine jv_aload_n hC 0 dX12_gain_0 rfl ?_
  refine jv_iconst hC dX12_gain_1 c32_0 ?_
  obtain ⟨g1, hF⟩ := hg_some hF
  refine jv_putI hC fl_X12_1 dX12_gain_2 rfl rfl rfl g1 ?_
  obtain ⟨M2, e3, hF⟩ := hl_some hF
  refine jv_mem e3 ?_
  refine jv_aload_n hC 0 dX12_gain_5 rfl ?_
  refine jv_iload_n hC 1 dX12_gain_6 rfl ?_
  refine jv_iload_n hC 2 dX12_gain_7 rfl ?_
  obtain ⟨r6, M5, c4, hF⟩ := hb_some hF
  refine jv_callV hC (st := []) [.int v1, .int v2] (k_Md_areUnlike c4) mm_Md_areUnlike mi_Md_areUnlike ml_X12_332 dX12_gain_8 g1 rfl (Nat.le_of_ble_eq_true rfl) rfl rfl (Nat.le_of_ble_eq_true rfl) ?_
  refine jv_nf 11 [.int r6] rfl rfl ?_
  refine jv_if_ne hC 16 dX12_gain_11 (by decide) (fun h7 => ?_) (fun h7 => ?_)
  · have hF := hi_neg h7 hF
    refine jv_aload_n hC 0 dX12_gain_16 rfl ?_
    obtain ⟨M9, c8, hF⟩ := hv_some hF
    refine jv_callV hC (st := []) [] (k_Md_findYields c8) mm_Md_findYields mi_Md_findYields ml_X12_320 dX12_gain_17 g1 rfl (Nat.le_of_ble_eq_true rfl) rfl rfl (Nat.le_of_ble_eq_true rfl) ?_
    refine jv_nf 20 [] rfl rfl ?_
    refine jv_aload_n hC 0 dX12_gain_20 rfl ?_
    refine jv_iload_n hC 1 dX12_gain_21 rfl ?_
    refine jv_iload_n hC 2 dX12_gain_22 rfl ?_
    obtain ⟨r12, M11, c10, hF⟩ := hb_some hF
    refine jv_callV hC (st := []) [.int v1, .int v2] (k_Md_gainOf c10) mm_Md_gainOf mi_Md_gainOf ml_X12_335 dX12_gain_23 g1 rfl (Nat.le_of_ble_eq_true rfl) rfl rfl (Nat.le_of_ble_eq_true rfl) ?_
    refine jv_nf 26 [.int r12] rfl rfl ?_
    obtain ⟨rfl, rfl⟩ := hr_some hF
    exact jv_iret hC dX12_gain_26
  · have hF := hi_pos h7 hF
    refine jv_iconst hC dX12_gain_14 c32_m1 ?_
    obtain ⟨rfl, rfl⟩ := hr_some hF
    exact jv_iret hC dX12_gain_15
set_option maxRecDepth 100000 in
set_option maxHeartbeats 4000000 in
theorem s_Md_guild_2 {X : hm_X} {n : Nat} {S : hm_S} (hC : hm_C X RX12 cX12_guild 5 (some .int) 3 n S) {k29 : Nat → Int32 → Int32 → Int32 → Int32 → hm_M → Option (Int32 × hm_M)} (hk29 : ∀ (v0 : Nat) (v1 : Int32) (v2 : Int32) (v3 : Int32) (v4 : Int32)  (M : hm_M) (r : Int32) (M' : hm_M), k29 v0 v1 v2 v3 v4 M = some (r, M') → hm_U X 29 [(0, .ref v0), (1, .int v1), (2, .int v2), (3, .int v3), (4, .int v4)] [] M (hm_Q X (some (.int r)) M')) {v0 : Nat} {v1 : Int32} {v2 : Int32} {v4 : Int32} {s0 : Int32} {s1 : Int32} {M : hm_M} {r : Int32} {M' : hm_M} (hF : b_Md_guild_2 S k29 v0 v1 v2 v4 s0 s1 M = some (r, M')) : hm_U X 57 [(0, .ref v0), (1, .int v1), (2, .int v2), (4, .int v4)] [.int s0, .int s1] M (hm_Q X (some (.int r)) M') := by
  unfold b_Md_guild_2 at hF
  refine jv_ior hC dX12_guild_57 ?_
  obtain ⟨x1, e2, hF⟩ := hl_some hF
  refine jv_topI e2 ?_
  refine jv_istore_n hC [(3, .int x1), (0, .ref v0), (1, .int v1), (2, .int v2), (4, .int v4)] dX12_guild_58 (by decide) rfl ?_
  refine jv_iinc hC 4 [(4, .int (v4 + (1 : Int32))), (3, .int x1), (0, .ref v0), (1, .int v1), (2, .int v2)] dX12_guild_59 rfl c32_1 (by decide) rfl ?_
  refine jv_goto hC 29 dX12_guild_62 (by decide) ?_
  refine jv_sub [2, 3, 4, 1, 0] (ls' := [(0, .ref v0), (1, .int v1), (2, .int v2), (3, .int x1), (4, .int (v4 + (1 : Int32)))]) rfl ?_
  exact jv_pc 29 rfl (hk29 _ _ _ _ _ _ _ _ hF)
set_option maxRecDepth 100000 in
set_option maxHeartbeats 4000000 in
theorem t_Md_guild_1 {X : hm_X} {n : Nat} {S : hm_S} (hC : hm_C X RX12 cX12_guild 5 (some .int) 3 n S) {k29 : Nat → Int32 → Int32 → Int32 → Int32 → hm_M → Option (Int32 × hm_M)} (hk29 : ∀ (v0 : Nat) (v1 : Int32) (v2 : Int32) (v3 : Int32) (v4 : Int32)  (M : hm_M) (r : Int32) (M' : hm_M), k29 v0 v1 v2 v3 v4 M = some (r, M') → hm_U X 29 [(0, .ref v0), (1, .int v1), (2, .int v2), (3, .int v3), (4, .int v4)] [] M (hm_Q X (some (.int r)) M')) {v0 : Nat} {v1 : Int32} {v2 : Int32} {v3 : Int32} {v4 : Int32} {M : hm_M} {r : Int32} {M' : hm_M} (hF : b_Md_guild_1 S k29 v0 v1 v2 v3 v4 M = some (r, M')) : hm_U X 29 [(0, .ref v0), (1, .int v1), (2, .int v2), (3, .int v3), (4, .int v4)] [] M (hm_Q X (some (.int r)) M') := by
  unfold b_Md_guild_1 at hF
  refine jv_iload hC 4 dX12_guild_29 rfl ?_
  refine jv_aload_n hC 0 dX12_guild_31 rfl ?_
  obtain ⟨g1, hF⟩ := hg_some hF
  obtain ⟨r4, M3, c2, hF⟩ := hb_some hF
  refine jv_callV hC (st := [.int v4]) [] (k_Md_panes c2) mm_Md_panes mi_Md_panes ml_X12_269 dX12_guild_32 g1 rfl (Nat.le_of_ble_eq_true rfl) rfl rfl (Nat.le_of_ble_eq_true rfl) ?_
  refine jv_nf 35 [.int r4, .int v4] rfl rfl ?_
  refine jv_icmp_ge hC 65 dX12_guild_35 (by decide) (fun h5 => ?_) (fun h5 => ?_)
  · have hF := hi_pos h5 hF
    refine jv_iload_n hC 2 dX12_guild_65 rfl ?_
    refine jv_iconst hC dX12_guild_66 c32_2 ?_
    refine jv_icmp_ge hC 85 dX12_guild_67 (by decide) (fun h6 => ?_) (fun h6 => ?_)
    · have hF := hi_pos h6 hF
      refine jv_iload_n hC 3 dX12_guild_85 rfl ?_
      obtain ⟨rfl, rfl⟩ := hr_some hF
      exact jv_iret hC dX12_guild_86
    · have hF := hi_neg h6 hF
      refine jv_aload_n hC 0 dX12_guild_70 rfl ?_
      obtain ⟨g7, hF⟩ := hg_some hF
      refine jv_getR hC fl_X12_81 dX12_guild_71 rfl g1 g7 ?_
      refine jv_iconst hC dX12_guild_74 c32_5 ?_
      refine jv_iconst hC dX12_guild_75 c32_2 ?_
      refine jv_iload_n hC 1 dX12_guild_76 rfl ?_
      refine jv_imul hC dX12_guild_77 ?_
      refine jv_iadd hC dX12_guild_78 ?_
      refine jv_pc 79 rfl ?_
      refine jv_iload_n hC 2 dX12_guild_79 rfl ?_
      refine jv_iadd hC dX12_guild_80 ?_
      obtain ⟨g8, hF⟩ := hg_some hF
      obtain ⟨n9, sn9, in9⟩ := hm_ib_ok g8
      refine jv_iaload hC dX12_guild_81 sn9 in9 ?_
      refine jv_goto hC 86 dX12_guild_82 (by decide) ?_
      obtain ⟨rfl, rfl⟩ := hr_some hF
      exact jv_iret hC dX12_guild_86
  · have hF := hi_neg h5 hF
    refine jv_iload_n hC 3 dX12_guild_38 rfl ?_
    refine jv_aload_n hC 0 dX12_guild_39 rfl ?_
    refine jv_iload hC 4 dX12_guild_40 rfl ?_
    obtain ⟨r12, M11, c10, hF⟩ := hb_some hF
    refine jv_callV hC (st := [.int v3]) [.int v4] (k_Md_ownerOf c10) mm_Md_ownerOf mi_Md_ownerOf ml_X12_289 dX12_guild_42 g1 rfl (Nat.le_of_ble_eq_true rfl) rfl rfl (Nat.le_of_ble_eq_true rfl) ?_
    refine jv_nf 45 [.int r12, .int v3] rfl rfl ?_
    refine jv_iload_n hC 1 dX12_guild_45 rfl ?_
    refine jv_icmp_ne hC 56 dX12_guild_46 (by decide) (fun h13 => ?_) (fun h13 => ?_)
    · have hF := hi_neg h13 hF
      refine jv_iconst hC dX12_guild_56 c32_0 ?_
      refine jv_sub [0, 1, 2, 4] (ls' := [(0, .ref v0), (1, .int v1), (2, .int v2), (4, .int v4)]) rfl ?_
      exact jv_pc 57 rfl (s_Md_guild_2 hC hk29 hF)
    · have hF := hi_pos h13 hF
      refine jv_iconst hC dX12_guild_49 c32_1 ?_
      refine jv_iload hC 4 dX12_guild_50 rfl ?_
      refine jv_ishl hC dX12_guild_52 ?_
      refine jv_goto hC 57 dX12_guild_53 (by decide) ?_
      refine jv_sub [0, 1, 2, 4] (ls' := [(0, .ref v0), (1, .int v1), (2, .int v2), (4, .int v4)]) rfl ?_
      exact jv_pc 57 rfl (s_Md_guild_2 hC hk29 hF)
theorem s_Md_guild_1 {X : hm_X} {n : Nat} {S : hm_S} (hC : hm_C X RX12 cX12_guild 5 (some .int) 3 n S) : ∀ (q : Nat) (v0 : Nat) (v1 : Int32) (v2 : Int32) (v3 : Int32) (v4 : Int32) (M : hm_M) (r : Int32) (M' : hm_M), f_Md_guild_1 S  q v0 v1 v2 v3 v4 M = some (r, M') → hm_U X 29 [(0, .ref v0), (1, .int v1), (2, .int v2), (3, .int v3), (4, .int v4)] [] M (hm_Q X (some (.int r)) M') := by
  intro q
  induction q with
  | zero => intro v0 v1 v2 v3 v4 M r M' hF; cases hF
  | succ q ih => intro v0 v1 v2 v3 v4 M r M' hF; exact t_Md_guild_1 hC ih hF
set_option maxRecDepth 100000 in
set_option maxHeartbeats 4000000 in
theorem k_Md_guild {n : Nat} {S : hm_S} {v0 : Nat} {v1 : Int32} {v2 : Int32} {M : hm_M} {r : Int32} {M' : hm_M} (hF : f_Md_guild S v0 v1 v2 M = some (r, M')) : hm_KM yX12_guild cX12_guild 5 (some .int) 3 n S [.ref v0, .int v1, .int v2] M (some (.int r)) M' := by
  refine hm_enter mm_Md_guild (Nat.le_of_ble_eq_true rfl) (fun X hC => ?_)
  show hm_U X 0 [(0, .ref v0), (1, .int v1), (2, .int v2)] [] M _
  unfold f_Md_guild at hF
  refine jv_aload_n hC 0 dX12_guild_0 rfl ?_
  refine jv_iconst hC dX12_guild_1 c32_0 ?_
  obtain ⟨g1, hF⟩ := hg_some hF
  refine jv_putI hC fl_X12_1 dX12_guild_2 rfl rfl rfl g1 ?_
  obtain ⟨M2, e3, hF⟩ := hl_some hF
  refine jv_mem e3 ?_
  refine jv_aload_n hC 0 dX12_guild_5 rfl ?_
  refine jv_iload_n hC 1 dX12_guild_6 rfl ?_
  obtain ⟨r6, M5, c4, hF⟩ := hb_some hF
  refine jv_callV hC (st := []) [.int v1] (k_Md_isGuild c4) mm_Md_isGuild mi_Md_isGuild ml_X12_311 dX12_guild_7 g1 rfl (Nat.le_of_ble_eq_true rfl) rfl rfl (Nat.le_of_ble_eq_true rfl) ?_
  refine jv_nf 10 [.int r6] rfl rfl ?_
  refine jv_if_eq hC 22 dX12_guild_10 (by decide) (fun h7 => ?_) (fun h7 => ?_)
  · have hF := hi_pos h7 hF
    refine jv_iconst hC dX12_guild_22 c32_m1 ?_
    obtain ⟨rfl, rfl⟩ := hr_some hF
    exact jv_iret hC dX12_guild_23
  · have hF := hi_neg h7 hF
    refine jv_iload_n hC 2 dX12_guild_13 rfl ?_
    refine jv_iconst hC dX12_guild_14 c32_0 ?_
    refine jv_iconst hC dX12_guild_15 c32_2 ?_
    obtain ⟨r10, M9, c8, hF⟩ := hb_some hF
    refine jv_callS hC (st := []) [.int v2, .int (0 : Int32), .int (2 : Int32)] (k_Md_within c8) mm_Md_within ms_Md_within ml_X12_272 dX12_guild_16 (Nat.le_of_ble_eq_true rfl) rfl rfl (Nat.le_of_ble_eq_true rfl) ?_
    refine jv_nf 19 [.int r10] rfl rfl ?_
    refine jv_if_ne hC 24 dX12_guild_19 (by decide) (fun h11 => ?_) (fun h11 => ?_)
    · have hF := hi_neg h11 hF
      refine jv_iconst hC dX12_guild_24 c32_0 ?_
      refine jv_istore_n hC [(3, .int (0 : Int32)), (0, .ref v0), (1, .int v1), (2, .int v2)] dX12_guild_25 (by decide) rfl ?_
      refine jv_iconst hC dX12_guild_26 c32_0 ?_
      refine jv_istore hC [(4, .int (0 : Int32)), (3, .int (0 : Int32)), (0, .ref v0), (1, .int v1), (2, .int v2)] dX12_guild_27 (by decide) rfl ?_
      refine jv_sub [2, 3, 4, 1, 0] (ls' := [(0, .ref v0), (1, .int v1), (2, .int v2), (3, .int (0 : Int32)), (4, .int (0 : Int32))]) rfl ?_
      exact jv_pc 29 rfl (s_Md_guild_1 hC hN _ _ _ _ _ _ _ _ hF)
    · have hF := hi_pos h11 hF
      refine jv_iconst hC dX12_guild_22 c32_m1 ?_
      obtain ⟨rfl, rfl⟩ := hr_some hF
      exact jv_iret hC dX12_guild_23
set_option maxRecDepth 100000 in
set_option maxHeartbeats 4000000 in
theorem s_Md_leastFrom_3 {X : hm_X} {n : Nat} {S : hm_S} (hC : hm_C X RX12 cX12_leastFrom 6 (some .int) 2 n S) {k7 : Nat → Int32 → Int32 → Int32 → Int32 → hm_M → Option (Int32 × hm_M)} (hk7 : ∀ (v0 : Nat) (v1 : Int32) (v2 : Int32) (v3 : Int32) (v4 : Int32)  (M : hm_M) (r : Int32) (M' : hm_M), k7 v0 v1 v2 v3 v4 M = some (r, M') → hm_U X 7 [(0, .ref v0), (1, .int v1), (2, .int v2), (3, .int v3), (4, .int v4)] [] M (hm_Q X (some (.int r)) M')) {v0 : Nat} {v1 : Int32} {v2 : Int32} {v4 : Int32} {s0 : Int32} {M : hm_M} {r : Int32} {M' : hm_M} (hF : b_Md_leastFrom_3 S k7 v0 v1 v2 v4 s0 M = some (r, M')) : hm_U X 75 [(0, .ref v0), (1, .int v1), (2, .int v2), (4, .int v4)] [.int s0] M (hm_Q X (some (.int r)) M') := by
  unfold b_Md_leastFrom_3 at hF
  refine jv_istore_n hC [(3, .int s0), (0, .ref v0), (1, .int v1), (2, .int v2), (4, .int v4)] dX12_leastFrom_75 (by decide) rfl ?_
  refine jv_iinc hC 4 [(4, .int (v4 + (1 : Int32))), (3, .int s0), (0, .ref v0), (1, .int v1), (2, .int v2)] dX12_leastFrom_76 rfl c32_1 (by decide) rfl ?_
  refine jv_goto hC 7 dX12_leastFrom_79 (by decide) ?_
  refine jv_sub [2, 3, 4, 1, 0] (ls' := [(0, .ref v0), (1, .int v1), (2, .int v2), (3, .int s0), (4, .int (v4 + (1 : Int32)))]) rfl ?_
  exact jv_pc 7 rfl (hk7 _ _ _ _ _ _ _ _ hF)
set_option maxRecDepth 100000 in
set_option maxHeartbeats 4000000 in
theorem s_Md_leastFrom_2 {X : hm_X} {n : Nat} {S : hm_S} (hC : hm_C X RX12 cX12_leastFrom 6 (some .int) 2 n S) {k7 : Nat → Int32 → Int32 → Int32 → Int32 → hm_M → Option (Int32 × hm_M)} (hk7 : ∀ (v0 : Nat) (v1 : Int32) (v2 : Int32) (v3 : Int32) (v4 : Int32)  (M : hm_M) (r : Int32) (M' : hm_M), k7 v0 v1 v2 v3 v4 M = some (r, M') → hm_U X 7 [(0, .ref v0), (1, .int v1), (2, .int v2), (3, .int v3), (4, .int v4)] [] M (hm_Q X (some (.int r)) M')) {v0 : Nat} {v1 : Int32} {v2 : Int32} {v3 : Int32} {v4 : Int32} {s0 : Int32} {M : hm_M} {r : Int32} {M' : hm_M} (hF : b_Md_leastFrom_2 S k7 v0 v1 v2 v3 v4 s0 M = some (r, M')) : hm_U X 61 [(0, .ref v0), (1, .int v1), (2, .int v2), (3, .int v3), (4, .int v4)] [.int s0] M (hm_Q X (some (.int r)) M') := by
  unfold b_Md_leastFrom_2 at hF
  refine jv_istore hC [(5, .int s0), (0, .ref v0), (1, .int v1), (2, .int v2), (3, .int v3), (4, .int v4)] dX12_leastFrom_61 (by decide) rfl ?_
  refine jv_iload hC 0 dX12_leastFrom_63 rfl ?_
  refine jv_iload_n hC 4 dX12_leastFrom_65 rfl ?_
  refine jv_icmp_ge hC 74 dX12_leastFrom_66 (by decide) (fun h1 => ?_) (fun h1 => ?_)
  · have hF := hi_pos h1 hF
    refine jv_iload_n hC 4 dX12_leastFrom_74 rfl ?_
    refine jv_sub [1, 2, 3, 5] (ls' := [(0, .ref v0), (1, .int v1), (2, .int v2), (4, .int v4)]) rfl ?_
    exact jv_pc 75 rfl (s_Md_leastFrom_3 hC hk7 hF)
  · have hF := hi_neg h1 hF
    refine jv_iload hC 0 dX12_leastFrom_69 rfl ?_
    refine jv_goto hC 75 dX12_leastFrom_71 (by decide) ?_
    refine jv_sub [1, 2, 3, 5] (ls' := [(0, .ref v0), (1, .int v1), (2, .int v2), (4, .int v4)]) rfl ?_
    exact jv_pc 75 rfl (s_Md_leastFrom_3 hC hk7 hF)
set_option maxRecDepth 100000 in
set_option maxHeartbeats 4000000 in
theorem t_Md_leastFrom_1 {X : hm_X} {n : Nat} {S : hm_S} (hC : hm_C X RX12 cX12_leastFrom 6 (some .int) 2 n S) {k7 : Nat → Int32 → Int32 → Int32 → Int32 → hm_M → Option (Int32 × hm_M)} (hk7 : ∀ (v0 : Nat) (v1 : Int32) (v2 : Int32) (v3 : Int32) (v4 : Int32)  (M : hm_M) (r : Int32) (M' : hm_M), k7 v0 v1 v2 v3 v4 M = some (r, M') → hm_U X 7 [(0, .ref v0), (1, .int v1), (2, .int v2), (3, .int v3), (4, .int v4)] [] M (hm_Q X (some (.int r)) M')) {v0 : Nat} {v1 : Int32} {v2 : Int32} {v3 : Int32} {v4 : Int32} {M : hm_M} {r : Int32} {M' : hm_M} (hF : b_Md_leastFrom_1 S k7 v0 v1 v2 v3 v4 M = some (r, M')) : hm_U X 7 [(0, .ref v0), (1, .int v1), (2, .int v2), (3, .int v3), (4, .int v4)] [] M (hm_Q X (some (.int r)) M') := by
  unfold b_Md_leastFrom_1 at hF
  refine jv_iload hC 4 dX12_leastFrom_7 rfl ?_
  refine jv_bipush hC dX12_leastFrom_9 c8_64 ?_
  refine jv_icmp_ge hC 82 dX12_leastFrom_11 (by decide) (fun h1 => ?_) (fun h1 => ?_)
  · have hF := hi_pos h1 hF
    refine jv_iload_n hC 3 dX12_leastFrom_82 rfl ?_
    obtain ⟨rfl, rfl⟩ := hr_some hF
    exact jv_iret hC dX12_leastFrom_83
  · have hF := hi_neg h1 hF
    refine jv_aload_n hC 0 dX12_leastFrom_14 rfl ?_
    obtain ⟨g2, hF⟩ := hg_some hF
    obtain ⟨g3, hF⟩ := hg_some hF
    refine jv_getR hC fl_X12_121 dX12_leastFrom_15 rfl g2 g3 ?_
    refine jv_bipush hC dX12_leastFrom_18 c8_64 ?_
    refine jv_iload_n hC 1 dX12_leastFrom_20 rfl ?_
    refine jv_iconst hC dX12_leastFrom_21 c32_1 ?_
    refine jv_iadd hC dX12_leastFrom_22 ?_
    refine jv_imul hC dX12_leastFrom_23 ?_
    refine jv_pc 24 rfl ?_
    refine jv_iload hC 4 dX12_leastFrom_24 rfl ?_
    refine jv_iadd hC dX12_leastFrom_26 ?_
    obtain ⟨g4, hF⟩ := hg_some hF
    obtain ⟨n5, sn5, in5⟩ := hm_ib_ok g4
    refine jv_iaload hC dX12_leastFrom_27 sn5 in5 ?_
    refine jv_ldcw hC cn_X12_353 dX12_leastFrom_28 ?_
    refine jv_icmp_lt hC 40 dX12_leastFrom_31 (by decide) (fun h6 => ?_) (fun h6 => ?_)
    · have hF := hi_pos h6 hF
      refine jv_aload_n hC 0 dX12_leastFrom_40 rfl ?_
      refine jv_getR hC fl_X12_121 dX12_leastFrom_41 rfl g2 g3 ?_
      refine jv_bipush hC dX12_leastFrom_44 c8_64 ?_
      refine jv_iload_n hC 1 dX12_leastFrom_46 rfl ?_
      refine jv_iconst hC dX12_leastFrom_47 c32_1 ?_
      refine jv_iadd hC dX12_leastFrom_48 ?_
      refine jv_imul hC dX12_leastFrom_49 ?_
      refine jv_pc 50 rfl ?_
      refine jv_iload hC 4 dX12_leastFrom_50 rfl ?_
      refine jv_iadd hC dX12_leastFrom_52 ?_
      refine jv_iaload hC dX12_leastFrom_53 sn5 in5 ?_
      refine jv_iload_n hC 2 dX12_leastFrom_54 rfl ?_
      refine jv_iload hC 4 dX12_leastFrom_55 rfl ?_
      obtain ⟨r9, M8, c7, hF⟩ := hb_some hF
      refine jv_callS hC (st := [.int (M.1 (M.2.2 v0 30) (((64 : Int32) * (v1 + (1 : Int32))) + v4).toNatClampNeg)]) [.int v2, .int v4] (k_Md_steps c7) mm_Md_steps ms_Md_steps ml_X12_354 dX12_leastFrom_57 (Nat.le_of_ble_eq_true rfl) rfl rfl (Nat.le_of_ble_eq_true rfl) ?_
      refine jv_nf 60 [.int r9, .int (M.1 (M.2.2 v0 30) (((64 : Int32) * (v1 + (1 : Int32))) + v4).toNatClampNeg)] rfl rfl ?_
      refine jv_iadd hC dX12_leastFrom_60 ?_
      exact jv_pc 61 rfl (s_Md_leastFrom_2 hC hk7 hF)
    · have hF := hi_neg h6 hF
      refine jv_ldcw hC cn_X12_353 dX12_leastFrom_34 ?_
      refine jv_goto hC 61 dX12_leastFrom_37 (by decide) ?_
      exact jv_pc 61 rfl (s_Md_leastFrom_2 hC hk7 hF)
theorem s_Md_leastFrom_1 {X : hm_X} {n : Nat} {S : hm_S} (hC : hm_C X RX12 cX12_leastFrom 6 (some .int) 2 n S) : ∀ (q : Nat) (v0 : Nat) (v1 : Int32) (v2 : Int32) (v3 : Int32) (v4 : Int32) (M : hm_M) (r : Int32) (M' : hm_M), f_Md_leastFrom_1 S  q v0 v1 v2 v3 v4 M = some (r, M') → hm_U X 7 [(0, .ref v0), (1, .int v1), (2, .int v2), (3, .int v3), (4, .int v4)] [] M (hm_Q X (some (.int r)) M') := by
  intro q
  induction q with
  | zero => intro v0 v1 v2 v3 v4 M r M' hF; cases hF
  | succ q ih => intro v0 v1 v2 v3 v4 M r M' hF; exact t_Md_leastFrom_1 hC ih hF
set_option maxRecDepth 100000 in
set_option maxHeartbeats 4000000 in
theorem k_Md_leastFrom {n : Nat} {S : hm_S} {v0 : Nat} {v1 : Int32} {v2 : Int32} {M : hm_M} {r : Int32} {M' : hm_M} (hF : f_Md_leastFrom S v0 v1 v2 M = some (r, M')) : hm_KM yX12_leastFrom cX12_leastFrom 6 (some .int) 2 n S [.ref v0, .int v1, .int v2] M (some (.int r)) M' := by
  refine hm_enter mm_Md_leastFrom (Nat.le_of_ble_eq_true rfl) (fun X hC => ?_)
  show hm_U X 0 [(0, .ref v0), (1, .int v1), (2, .int v2)] [] M _
  unfold f_Md_leastFrom at hF
  refine jv_ldcw hC cn_X12_353 dX12_leastFrom_0 ?_
  refine jv_istore_n hC [(3, .int (100000000 : Int32)), (0, .ref v0), (1, .int v1), (2, .int v2)] dX12_leastFrom_3 (by decide) rfl ?_
  refine jv_iconst hC dX12_leastFrom_4 c32_0 ?_
  refine jv_istore hC [(4, .int (0 : Int32)), (3, .int (100000000 : Int32)), (0, .ref v0), (1, .int v1), (2, .int v2)] dX12_leastFrom_5 (by decide) rfl ?_
  refine jv_sub [2, 3, 4, 1, 0] (ls' := [(0, .ref v0), (1, .int v1), (2, .int v2), (3, .int (100000000 : Int32)), (4, .int (0 : Int32))]) rfl ?_
  exact jv_pc 7 rfl (s_Md_leastFrom_1 hC hN _ _ _ _ _ _ _ _ hF)
set_option maxRecDepth 100000 in
set_option maxHeartbeats 4000000 in
theorem s_Md_mark_1 {X : hm_X} {n : Nat} {S : hm_S} (hC : hm_C X RX12 cX12_mark 3 (some .boolean) 2 n S) {v0 : Nat} {v1 : Int32} {v2 : Int32} {M : hm_M} {r : Int32} {M' : hm_M} (hF : b_Md_mark_1 S v0 v1 v2 M = some (r, M')) : hm_U X 29 [(0, .ref v0), (1, .int v1), (2, .int v2)] [] M (hm_Q X (some (.int r)) M') := by
  unfold b_Md_mark_1 at hF
  refine jv_iload_n hC 2 dX12_mark_29 rfl ?_
  refine jv_if_eq hC 51 dX12_mark_30 (by decide) (fun h1 => ?_) (fun h1 => ?_)
  · have hF := hi_pos h1 hF
    refine jv_aload_n hC 0 dX12_mark_51 rfl ?_
    obtain ⟨g2, hF⟩ := hg_some hF
    obtain ⟨g3, hF⟩ := hg_some hF
    refine jv_getR hC fl_X12_102 dX12_mark_52 rfl g2 g3 ?_
    refine jv_iload_n hC 1 dX12_mark_55 rfl ?_
    refine jv_iconst hC dX12_mark_56 c32_1 ?_
    obtain ⟨g4, hF⟩ := hg_some hF
    obtain ⟨n5, sn5, in5⟩ := hm_ib_ok g4
    refine jv_zastore hC dX12_mark_57 sn5 in5 ?_
    obtain ⟨M6, e7, hF⟩ := hl_some hF
    refine jv_mem e7 ?_
    refine jv_aload_n hC 0 dX12_mark_58 rfl ?_
    refine jv_iconst hC dX12_mark_59 c32_0 ?_
    refine jv_pc 60 rfl ?_
    refine jv_iconst hC dX12_mark_60 c32_1 ?_
    refine jv_iload_n hC 1 dX12_mark_61 rfl ?_
    refine jv_iadd hC dX12_mark_62 ?_
    refine jv_bipush hC dX12_mark_63 c8_40 ?_
    obtain ⟨M9, c8, hF⟩ := hv_some hF
    refine jv_callV hC (st := []) [.int (0 : Int32), .int ((1 : Int32) + v1), .int (40 : Int32)] (k_Md_copies c8) mm_Md_copies mi_Md_copies ml_X12_262 dX12_mark_65 g2 rfl (Nat.le_of_ble_eq_true rfl) rfl rfl (Nat.le_of_ble_eq_true rfl) ?_
    refine jv_nf 68 [] rfl rfl ?_
    refine jv_iconst hC dX12_mark_68 c32_1 ?_
    obtain ⟨rfl, rfl⟩ := hr_some hF
    exact jv_zret hC (by decide) dX12_mark_69
  · have hF := hi_neg h1 hF
    refine jv_aload_n hC 0 dX12_mark_33 rfl ?_
    refine jv_iconst hC dX12_mark_34 c32_1 ?_
    refine jv_iload_n hC 1 dX12_mark_35 rfl ?_
    refine jv_iadd hC dX12_mark_36 ?_
    refine jv_iconst hC dX12_mark_37 c32_0 ?_
    refine jv_bipush hC dX12_mark_38 c8_40 ?_
    obtain ⟨g10, hF⟩ := hg_some hF
    obtain ⟨M12, c11, hF⟩ := hv_some hF
    refine jv_callV hC (st := []) [.int ((1 : Int32) + v1), .int (0 : Int32), .int (40 : Int32)] (k_Md_copies c11) mm_Md_copies mi_Md_copies ml_X12_262 dX12_mark_40 g10 rfl (Nat.le_of_ble_eq_true rfl) rfl rfl (Nat.le_of_ble_eq_true rfl) ?_
    refine jv_nf 43 [] rfl rfl ?_
    refine jv_aload_n hC 0 dX12_mark_43 rfl ?_
    refine jv_iconst hC dX12_mark_44 c32_0 ?_
    refine jv_putI hC fl_X12_201 dX12_mark_45 rfl rfl rfl g10 ?_
    obtain ⟨M13, e14, hF⟩ := hl_some hF
    refine jv_mem e14 ?_
    refine jv_goto hC 68 dX12_mark_48 (by decide) ?_
    refine jv_iconst hC dX12_mark_68 c32_1 ?_
    obtain ⟨rfl, rfl⟩ := hr_some hF
    exact jv_zret hC (by decide) dX12_mark_69
set_option maxRecDepth 100000 in
set_option maxHeartbeats 4000000 in
theorem k_Md_mark {n : Nat} {S : hm_S} {v0 : Nat} {v1 : Int32} {v2 : Int32} {M : hm_M} {r : Int32} {M' : hm_M} (hF : f_Md_mark S v0 v1 v2 M = some (r, M')) : hm_KM yX12_mark cX12_mark 3 (some .boolean) 2 n S [.ref v0, .int v1, .int v2] M (some (.int r)) M' := by
  refine hm_enter mm_Md_mark (Nat.le_of_ble_eq_true rfl) (fun X hC => ?_)
  show hm_U X 0 [(0, .ref v0), (1, .int v1), (2, .int v2)] [] M _
  unfold f_Md_mark at hF
  refine jv_aload_n hC 0 dX12_mark_0 rfl ?_
  refine jv_iconst hC dX12_mark_1 c32_0 ?_
  obtain ⟨g1, hF⟩ := hg_some hF
  refine jv_putI hC fl_X12_1 dX12_mark_2 rfl rfl rfl g1 ?_
  obtain ⟨M2, e3, hF⟩ := hl_some hF
  refine jv_mem e3 ?_
  refine jv_iload_n hC 1 dX12_mark_5 rfl ?_
  refine jv_iconst hC dX12_mark_6 c32_0 ?_
  refine jv_iconst hC dX12_mark_7 c32_3 ?_
  obtain ⟨r6, M5, c4, hF⟩ := hb_some hF
  refine jv_callS hC (st := []) [.int v1, .int (0 : Int32), .int (3 : Int32)] (k_Md_within c4) mm_Md_within ms_Md_within ml_X12_272 dX12_mark_8 (Nat.le_of_ble_eq_true rfl) rfl rfl (Nat.le_of_ble_eq_true rfl) ?_
  refine jv_nf 11 [.int r6] rfl rfl ?_
  refine jv_if_eq hC 27 dX12_mark_11 (by decide) (fun h7 => ?_) (fun h7 => ?_)
  · have hF := hi_pos h7 hF
    refine jv_iconst hC dX12_mark_27 c32_0 ?_
    obtain ⟨rfl, rfl⟩ := hr_some hF
    exact jv_zret hC (by decide) dX12_mark_28
  · have hF := hi_neg h7 hF
    refine jv_iload_n hC 2 dX12_mark_14 rfl ?_
    refine jv_if_eq hC 29 dX12_mark_15 (by decide) (fun h8 => ?_) (fun h8 => ?_)
    · have hF := hi_pos h8 hF
      exact jv_pc 29 rfl (s_Md_mark_1 hC hF)
    · have hF := hi_neg h8 hF
      refine jv_aload_n hC 0 dX12_mark_18 rfl ?_
      obtain ⟨g9, hF⟩ := hg_some hF
      refine jv_getR hC fl_X12_102 dX12_mark_19 rfl g1 g9 ?_
      refine jv_iload_n hC 1 dX12_mark_22 rfl ?_
      obtain ⟨g10, hF⟩ := hg_some hF
      obtain ⟨n11, sn11, in11⟩ := hm_ib_ok g10
      refine jv_zaload hC dX12_mark_23 sn11 in11 ?_
      refine jv_if_ne hC 29 dX12_mark_24 (by decide) (fun h12 => ?_) (fun h12 => ?_)
      · have hF := hi_neg h12 hF
        exact jv_pc 29 rfl (s_Md_mark_1 hC hF)
      · have hF := hi_pos h12 hF
        refine jv_iconst hC dX12_mark_27 c32_0 ?_
        obtain ⟨rfl, rfl⟩ := hr_some hF
        exact jv_zret hC (by decide) dX12_mark_28
set_option maxRecDepth 100000 in
set_option maxHeartbeats 4000000 in
theorem k_Md_pane {n : Nat} {S : hm_S} {v0 : Nat} {v1 : Int32} {v2 : Int32} {M : hm_M} {r : Int32} {M' : hm_M} (hF : f_Md_pane S v0 v1 v2 M = some (r, M')) : hm_KM yX12_pane cX12_pane 3 (some .int) 3 n S [.ref v0, .int v1, .int v2] M (some (.int r)) M' := by
  refine hm_enter mm_Md_pane (Nat.le_of_ble_eq_true rfl) (fun X hC => ?_)
  show hm_U X 0 [(0, .ref v0), (1, .int v1), (2, .int v2)] [] M _
  unfold f_Md_pane at hF
  refine jv_aload_n hC 0 dX12_pane_0 rfl ?_
  refine jv_iconst hC dX12_pane_1 c32_0 ?_
  obtain ⟨g1, hF⟩ := hg_some hF
  refine jv_putI hC fl_X12_1 dX12_pane_2 rfl rfl rfl g1 ?_
  obtain ⟨M2, e3, hF⟩ := hl_some hF
  refine jv_mem e3 ?_
  refine jv_aload_n hC 0 dX12_pane_5 rfl ?_
  refine jv_iload_n hC 1 dX12_pane_6 rfl ?_
  obtain ⟨r6, M5, c4, hF⟩ := hb_some hF
  refine jv_callV hC (st := []) [.int v1] (k_Md_isPane c4) mm_Md_isPane mi_Md_isPane ml_X12_314 dX12_pane_7 g1 rfl (Nat.le_of_ble_eq_true rfl) rfl rfl (Nat.le_of_ble_eq_true rfl) ?_
  refine jv_nf 10 [.int r6] rfl rfl ?_
  refine jv_if_eq hC 22 dX12_pane_10 (by decide) (fun h7 => ?_) (fun h7 => ?_)
  · have hF := hi_pos h7 hF
    refine jv_iconst hC dX12_pane_22 c32_m1 ?_
    obtain ⟨rfl, rfl⟩ := hr_some hF
    exact jv_iret hC dX12_pane_23
  · have hF := hi_neg h7 hF
    refine jv_iload_n hC 2 dX12_pane_13 rfl ?_
    refine jv_iconst hC dX12_pane_14 c32_0 ?_
    refine jv_iconst hC dX12_pane_15 c32_4 ?_
    obtain ⟨r10, M9, c8, hF⟩ := hb_some hF
    refine jv_callS hC (st := []) [.int v2, .int (0 : Int32), .int (4 : Int32)] (k_Md_within c8) mm_Md_within ms_Md_within ml_X12_272 dX12_pane_16 (Nat.le_of_ble_eq_true rfl) rfl rfl (Nat.le_of_ble_eq_true rfl) ?_
    refine jv_nf 19 [.int r10] rfl rfl ?_
    refine jv_if_ne hC 24 dX12_pane_19 (by decide) (fun h11 => ?_) (fun h11 => ?_)
    · have hF := hi_neg h11 hF
      refine jv_iload_n hC 2 dX12_pane_24 rfl ?_
      refine jv_iconst hC dX12_pane_25 c32_2 ?_
      refine jv_icmp_ne hC 37 dX12_pane_26 (by decide) (fun h12 => ?_) (fun h12 => ?_)
      · have hF := hi_neg h12 hF
        refine jv_iload_n hC 2 dX12_pane_37 rfl ?_
        refine jv_iconst hC dX12_pane_38 c32_4 ?_
        refine jv_icmp_ne hC 58 dX12_pane_39 (by decide) (fun h13 => ?_) (fun h13 => ?_)
        · have hF := hi_neg h13 hF
          refine jv_aload_n hC 0 dX12_pane_58 rfl ?_
          refine jv_iload_n hC 1 dX12_pane_59 rfl ?_
          refine jv_iload_n hC 2 dX12_pane_60 rfl ?_
          obtain ⟨r16, M15, c14, hF⟩ := hb_some hF
          refine jv_callV hC (st := []) [.int v1, .int v2] (k_Md_paneOf c14) mm_Md_paneOf mi_Md_paneOf ml_X12_292 dX12_pane_61 g1 rfl (Nat.le_of_ble_eq_true rfl) rfl rfl (Nat.le_of_ble_eq_true rfl) ?_
          refine jv_nf 64 [.int r16] rfl rfl ?_
          obtain ⟨rfl, rfl⟩ := hr_some hF
          exact jv_iret hC dX12_pane_64
        · have hF := hi_pos h13 hF
          refine jv_aload_n hC 0 dX12_pane_42 rfl ?_
          refine jv_iload_n hC 1 dX12_pane_43 rfl ?_
          obtain ⟨r19, M18, c17, hF⟩ := hb_some hF
          refine jv_callV hC (st := []) [.int v1] (k_Md_isBroken c17) mm_Md_isBroken mi_Md_isBroken ml_X12_283 dX12_pane_44 g1 rfl (Nat.le_of_ble_eq_true rfl) rfl rfl (Nat.le_of_ble_eq_true rfl) ?_
          refine jv_nf 47 [.int r19] rfl rfl ?_
          refine jv_if_eq hC 54 dX12_pane_47 (by decide) (fun h20 => ?_) (fun h20 => ?_)
          · have hF := hi_pos h20 hF
            refine jv_iconst hC dX12_pane_54 c32_0 ?_
            refine jv_goto hC 64 dX12_pane_55 (by decide) ?_
            obtain ⟨rfl, rfl⟩ := hr_some hF
            exact jv_iret hC dX12_pane_64
          · have hF := hi_neg h20 hF
            refine jv_iconst hC dX12_pane_50 c32_1 ?_
            refine jv_goto hC 64 dX12_pane_51 (by decide) ?_
            obtain ⟨rfl, rfl⟩ := hr_some hF
            exact jv_iret hC dX12_pane_64
      · have hF := hi_pos h12 hF
        refine jv_aload_n hC 0 dX12_pane_29 rfl ?_
        refine jv_iload_n hC 1 dX12_pane_30 rfl ?_
        obtain ⟨r23, M22, c21, hF⟩ := hb_some hF
        refine jv_callV hC (st := []) [.int v1] (k_Md_ownerOf c21) mm_Md_ownerOf mi_Md_ownerOf ml_X12_289 dX12_pane_31 g1 rfl (Nat.le_of_ble_eq_true rfl) rfl rfl (Nat.le_of_ble_eq_true rfl) ?_
        refine jv_nf 34 [.int r23] rfl rfl ?_
        refine jv_goto hC 64 dX12_pane_34 (by decide) ?_
        obtain ⟨rfl, rfl⟩ := hr_some hF
        exact jv_iret hC dX12_pane_64
    · have hF := hi_pos h11 hF
      refine jv_iconst hC dX12_pane_22 c32_m1 ?_
      obtain ⟨rfl, rfl⟩ := hr_some hF
      exact jv_iret hC dX12_pane_23
set_option maxRecDepth 100000 in
set_option maxHeartbeats 4000000 in
theorem k_Md_place {n : Nat} {S : hm_S} {v0 : Nat} {v1 : Int32} {v2 : Int32} {v3 : Int32} {v4 : Int32} {v5 : Int32} {M : hm_M} {r : Int32} {M' : hm_M} (hF : f_Md_place S v0 v1 v2 v3 v4 v5 M = some (r, M')) : hm_KM yX12_place cX12_place 6 (some .int) 5 n S [.ref v0, .int v1, .int v2, .int v3, .int v4, .int v5] M (some (.int r)) M' := by
  refine hm_enter mm_Md_place (Nat.le_of_ble_eq_true rfl) (fun X hC => ?_)
  show hm_U X 0 [(0, .ref v0), (1, .int v1), (2, .int v2), (3, .int v3), (4, .int v4), (5, .int v5)] [] M _
  unfold f_Md_place at hF
  refine jv_aload_n hC 0 dX12_place_0 rfl ?_
  refine jv_iconst hC dX12_place_1 c32_0 ?_
  obtain ⟨g1, hF⟩ := hg_some hF
  refine jv_putI hC fl_X12_1 dX12_place_2 rfl rfl rfl g1 ?_
  obtain ⟨M2, e3, hF⟩ := hl_some hF
  refine jv_mem e3 ?_
  refine jv_aload_n hC 0 dX12_place_5 rfl ?_
  refine jv_iload_n hC 1 dX12_place_6 rfl ?_
  refine jv_iload_n hC 2 dX12_place_7 rfl ?_
  obtain ⟨r6, M5, c4, hF⟩ := hb_some hF
  refine jv_callV hC (st := []) [.int v1, .int v2] (k_Md_isOn c4) mm_Md_isOn mi_Md_isOn ml_X12_295 dX12_place_8 g1 rfl (Nat.le_of_ble_eq_true rfl) rfl rfl (Nat.le_of_ble_eq_true rfl) ?_
  refine jv_nf 11 [.int r6] rfl rfl ?_
  refine jv_if_eq hC 33 dX12_place_11 (by decide) (fun h7 => ?_) (fun h7 => ?_)
  · have hF := hi_pos h7 hF
    refine jv_iconst hC dX12_place_33 c32_m1 ?_
    obtain ⟨rfl, rfl⟩ := hr_some hF
    exact jv_iret hC dX12_place_34
  · have hF := hi_neg h7 hF
    refine jv_iload_n hC 3 dX12_place_14 rfl ?_
    refine jv_iload hC 4 dX12_place_15 rfl ?_
    obtain ⟨r10, M9, c8, hF⟩ := hb_some hF
    refine jv_callS hC (st := []) [.int v3, .int v4] (k_Md_isTime c8) mm_Md_isTime ms_Md_isTime ml_X12_317 dX12_place_17 (Nat.le_of_ble_eq_true rfl) rfl rfl (Nat.le_of_ble_eq_true rfl) ?_
    refine jv_nf 20 [.int r10] rfl rfl ?_
    refine jv_if_eq hC 33 dX12_place_20 (by decide) (fun h11 => ?_) (fun h11 => ?_)
    · have hF := hi_pos h11 hF
      refine jv_iconst hC dX12_place_33 c32_m1 ?_
      obtain ⟨rfl, rfl⟩ := hr_some hF
      exact jv_iret hC dX12_place_34
    · have hF := hi_neg h11 hF
      refine jv_iload hC 5 dX12_place_23 rfl ?_
      refine jv_iconst hC dX12_place_25 c32_0 ?_
      refine jv_iconst hC dX12_place_26 c32_2 ?_
      obtain ⟨r14, M13, c12, hF⟩ := hb_some hF
      refine jv_callS hC (st := []) [.int v5, .int (0 : Int32), .int (2 : Int32)] (k_Md_within c12) mm_Md_within ms_Md_within ml_X12_272 dX12_place_27 (Nat.le_of_ble_eq_true rfl) rfl rfl (Nat.le_of_ble_eq_true rfl) ?_
      refine jv_nf 30 [.int r14] rfl rfl ?_
      refine jv_if_ne hC 35 dX12_place_30 (by decide) (fun h15 => ?_) (fun h15 => ?_)
      · have hF := hi_neg h15 hF
        refine jv_aload_n hC 0 dX12_place_35 rfl ?_
        refine jv_iload_n hC 3 dX12_place_36 rfl ?_
        refine jv_iload hC 4 dX12_place_37 rfl ?_
        obtain ⟨M17, c16, hF⟩ := hv_some hF
        refine jv_callV hC (st := []) [.int v3, .int v4] (k_Md_findLight c16) mm_Md_findLight mi_Md_findLight ml_X12_298 dX12_place_39 g1 rfl (Nat.le_of_ble_eq_true rfl) rfl rfl (Nat.le_of_ble_eq_true rfl) ?_
        refine jv_nf 42 [] rfl rfl ?_
        refine jv_aload_n hC 0 dX12_place_42 rfl ?_
        refine jv_bipush hC dX12_place_43 c8_8 ?_
        refine jv_iload_n hC 2 dX12_place_45 rfl ?_
        refine jv_imul hC dX12_place_46 ?_
        refine jv_iload_n hC 1 dX12_place_47 rfl ?_
        refine jv_iadd hC dX12_place_48 ?_
        refine jv_iload hC 5 dX12_place_49 rfl ?_
        refine jv_pc 51 rfl ?_
        obtain ⟨r20, M19, c18, hF⟩ := hb_some hF
        refine jv_callV hC (st := []) [.int (((8 : Int32) * v2) + v1), .int v5] (k_Md_lightAt c18) mm_Md_lightAt mi_Md_lightAt ml_X12_301 dX12_place_51 g1 rfl (Nat.le_of_ble_eq_true rfl) rfl rfl (Nat.le_of_ble_eq_true rfl) ?_
        refine jv_nf 54 [.int r20] rfl rfl ?_
        obtain ⟨rfl, rfl⟩ := hr_some hF
        exact jv_iret hC dX12_place_54
      · have hF := hi_pos h15 hF
        refine jv_iconst hC dX12_place_33 c32_m1 ?_
        obtain ⟨rfl, rfl⟩ := hr_some hF
        exact jv_iret hC dX12_place_34
set_option maxRecDepth 100000 in
set_option maxHeartbeats 4000000 in
theorem k_Md_rents {n : Nat} {S : hm_S} {v0 : Nat} {v1 : Int32} {M : hm_M} {r : Int32} {M' : hm_M} (hF : f_Md_rents S v0 v1 M = some (r, M')) : hm_KM yX12_rents cX12_rents 2 (some .int) 7 n S [.ref v0, .int v1] M (some (.int r)) M' := by
  refine hm_enter mm_Md_rents (Nat.le_of_ble_eq_true rfl) (fun X hC => ?_)
  show hm_U X 0 [(0, .ref v0), (1, .int v1)] [] M _
  unfold f_Md_rents at hF
  refine jv_aload_n hC 0 dX12_rents_0 rfl ?_
  refine jv_iconst hC dX12_rents_1 c32_0 ?_
  obtain ⟨g1, hF⟩ := hg_some hF
  refine jv_putI hC fl_X12_1 dX12_rents_2 rfl rfl rfl g1 ?_
  obtain ⟨M2, e3, hF⟩ := hl_some hF
  refine jv_mem e3 ?_
  refine jv_aload_n hC 0 dX12_rents_5 rfl ?_
  refine jv_iload_n hC 1 dX12_rents_6 rfl ?_
  obtain ⟨r6, M5, c4, hF⟩ := hb_some hF
  refine jv_callV hC (st := []) [.int v1] (k_Md_isGuild c4) mm_Md_isGuild mi_Md_isGuild ml_X12_311 dX12_rents_7 g1 rfl (Nat.le_of_ble_eq_true rfl) rfl rfl (Nat.le_of_ble_eq_true rfl) ?_
  refine jv_nf 10 [.int r6] rfl rfl ?_
  refine jv_if_ne hC 15 dX12_rents_10 (by decide) (fun h7 => ?_) (fun h7 => ?_)
  · have hF := hi_neg h7 hF
    refine jv_aload_n hC 0 dX12_rents_15 rfl ?_
    obtain ⟨M9, c8, hF⟩ := hv_some hF
    refine jv_callV hC (st := []) [] (k_Md_findYields c8) mm_Md_findYields mi_Md_findYields ml_X12_320 dX12_rents_16 g1 rfl (Nat.le_of_ble_eq_true rfl) rfl rfl (Nat.le_of_ble_eq_true rfl) ?_
    refine jv_nf 19 [] rfl rfl ?_
    refine jv_aload_n hC 0 dX12_rents_19 rfl ?_
    refine jv_iload_n hC 1 dX12_rents_20 rfl ?_
    obtain ⟨r12, M11, c10, hF⟩ := hb_some hF
    refine jv_callV hC (st := []) [.int v1] (k_Md_rentsOf c10) mm_Md_rentsOf mi_Md_rentsOf ml_X12_323 dX12_rents_21 g1 rfl (Nat.le_of_ble_eq_true rfl) rfl rfl (Nat.le_of_ble_eq_true rfl) ?_
    refine jv_nf 24 [.int r12] rfl rfl ?_
    obtain ⟨rfl, rfl⟩ := hr_some hF
    exact jv_iret hC dX12_rents_24
  · have hF := hi_pos h7 hF
    refine jv_iconst hC dX12_rents_13 c32_m1 ?_
    obtain ⟨rfl, rfl⟩ := hr_some hF
    exact jv_iret hC dX12_rents_14
set_option maxRecDepth 100000 in
set_option maxHeartbeats 4000000 in
theorem k_Md_see {n : Nat} {S : hm_S} {v0 : Nat} {v1 : Int32} {v2 : Int32} {v3 : Int32} {M : hm_M} {r : Int32} {M' : hm_M} (hF : f_Md_see S v0 v1 v2 v3 M = some (r, M')) : hm_KM yX12_see cX12_see 5 (some .int) 2 n S [.ref v0, .int v1, .int v2, .int v3] M (some (.int r)) M' := by
  refine hm_enter mm_Md_see (Nat.le_of_ble_eq_true rfl) (fun X hC => ?_)
  show hm_U X 0 [(0, .ref v0), (1, .int v1), (2, .int v2), (3, .int v3)] [] M _
  unfold f_Md_see at hF
  refine jv_aload_n hC 0 dX12_see_0 rfl ?_
  refine jv_iconst hC dX12_see_1 c32_0 ?_
  obtain ⟨g1, hF⟩ := hg_some hF
  refine jv_putI hC fl_X12_1 dX12_see_2 rfl rfl rfl g1 ?_
  obtain ⟨M2, e3, hF⟩ := hl_some hF
  refine jv_mem e3 ?_
  refine jv_aload_n hC 0 dX12_see_5 rfl ?_
  refine jv_iload_n hC 1 dX12_see_6 rfl ?_
  refine jv_iload_n hC 2 dX12_see_7 rfl ?_
  obtain ⟨r6, M5, c4, hF⟩ := hb_some hF
  refine jv_callV hC (st := []) [.int v1, .int v2] (k_Md_isOn c4) mm_Md_isOn mi_Md_isOn ml_X12_295 dX12_see_8 g1 rfl (Nat.le_of_ble_eq_true rfl) rfl rfl (Nat.le_of_ble_eq_true rfl) ?_
  refine jv_nf 11 [.int r6] rfl rfl ?_
  refine jv_if_eq hC 33 dX12_see_11 (by decide) (fun h7 => ?_) (fun h7 => ?_)
  · have hF := hi_pos h7 hF
    refine jv_iconst hC dX12_see_33 c32_m1 ?_
    obtain ⟨rfl, rfl⟩ := hr_some hF
    exact jv_iret hC dX12_see_34
  · have hF := hi_neg h7 hF
    refine jv_iload_n hC 3 dX12_see_14 rfl ?_
    refine jv_iconst hC dX12_see_15 c32_0 ?_
    refine jv_bipush hC dX12_see_16 c8_7 ?_
    obtain ⟨r10, M9, c8, hF⟩ := hb_some hF
    refine jv_callS hC (st := []) [.int v3, .int (0 : Int32), .int (7 : Int32)] (k_Md_within c8) mm_Md_within ms_Md_within ml_X12_272 dX12_see_18 (Nat.le_of_ble_eq_true rfl) rfl rfl (Nat.le_of_ble_eq_true rfl) ?_
    refine jv_nf 21 [.int r10] rfl rfl ?_
    refine jv_if_eq hC 33 dX12_see_21 (by decide) (fun h11 => ?_) (fun h11 => ?_)
    · have hF := hi_pos h11 hF
      refine jv_iconst hC dX12_see_33 c32_m1 ?_
      obtain ⟨rfl, rfl⟩ := hr_some hF
      exact jv_iret hC dX12_see_34
    · have hF := hi_neg h11 hF
      refine jv_aload_n hC 0 dX12_see_24 rfl ?_
      obtain ⟨r14, M13, c12, hF⟩ := hb_some hF
      refine jv_callV hC (st := []) [] (k_Md_seens c12) mm_Md_seens mi_Md_seens ml_X12_364 dX12_see_25 g1 rfl (Nat.le_of_ble_eq_true rfl) rfl rfl (Nat.le_of_ble_eq_true rfl) ?_
      refine jv_nf 28 [.int r14] rfl rfl ?_
      refine jv_bipush hC dX12_see_28 c8_8 ?_
      refine jv_icmp_ne hC 35 dX12_see_30 (by decide) (fun h15 => ?_) (fun h15 => ?_)
      · have hF := hi_neg h15 hF
        refine jv_bipush hC dX12_see_35 c8_14 ?_
        refine jv_iconst hC dX12_see_37 c32_3 ?_
        refine jv_aload_n hC 0 dX12_see_38 rfl ?_
        obtain ⟨r18, M17, c16, hF⟩ := hb_some hF
        refine jv_callV hC (st := [.int (3 : Int32), .int (14 : Int32)]) [] (k_Md_seens c16) mm_Md_seens mi_Md_seens ml_X12_364 dX12_see_39 g1 rfl (Nat.le_of_ble_eq_true rfl) rfl rfl (Nat.le_of_ble_eq_true rfl) ?_
        refine jv_nf 42 [.int r18, .int (3 : Int32), .int (14 : Int32)] rfl rfl ?_
        refine jv_imul hC dX12_see_42 ?_
        refine jv_iadd hC dX12_see_43 ?_
        obtain ⟨x19, e20, hF⟩ := hl_some hF
        refine jv_topI e20 ?_
        refine jv_istore hC [(4, .int x19), (0, .ref v0), (1, .int v1), (2, .int v2), (3, .int v3)] dX12_see_44 (by decide) rfl ?_
        refine jv_aload_n hC 1 dX12_see_46 rfl ?_
        obtain ⟨g21, hF⟩ := hg_some hF
        refine jv_getR hC fl_X12_99 dX12_see_47 rfl g1 g21 ?_
        refine jv_iload hC 0 dX12_see_50 rfl ?_
        refine jv_iload_n hC 2 dX12_see_52 rfl ?_
        refine jv_pc 53 rfl ?_
        obtain ⟨g22, hF⟩ := hg_some hF
        obtain ⟨n23, sn23, in23⟩ := hm_ib_ok g22
        refine jv_iastore hC dX12_see_53 sn23 in23 ?_
        obtain ⟨M24, e25, hF⟩ := hl_some hF
        refine jv_mem e25 ?_
        refine jv_aload_n hC 1 dX12_see_54 rfl ?_
        obtain ⟨g26, hF⟩ := hg_some hF
        refine jv_getR hC fl_X12_99 dX12_see_55 rfl g1 g26 ?_
        refine jv_iload hC 0 dX12_see_58 rfl ?_
        refine jv_iconst hC dX12_see_60 c32_1 ?_
        refine jv_iadd hC dX12_see_61 ?_
        refine jv_iload_n hC 3 dX12_see_62 rfl ?_
        obtain ⟨g27, hF⟩ := hg_some hF
        obtain ⟨n28, sn28, in28⟩ := hm_ib_ok g27
        refine jv_iastore hC dX12_see_63 sn28 in28 ?_
        obtain ⟨M29, e30, hF⟩ := hl_some hF
        refine jv_mem e30 ?_
        refine jv_pc 64 rfl ?_
        refine jv_aload_n hC 1 dX12_see_64 rfl ?_
        obtain ⟨g31, hF⟩ := hg_some hF
        refine jv_getR hC fl_X12_99 dX12_see_65 rfl g1 g31 ?_
        refine jv_iload hC 0 dX12_see_68 rfl ?_
        refine jv_iconst hC dX12_see_70 c32_2 ?_
        refine jv_iadd hC dX12_see_71 ?_
        refine jv_iload_n hC 4 dX12_see_72 rfl ?_
        obtain ⟨g32, hF⟩ := hg_some hF
        obtain ⟨n33, sn33, in33⟩ := hm_ib_ok g32
        refine jv_iastore hC dX12_see_73 sn33 in33 ?_
        obtain ⟨M34, e35, hF⟩ := hl_some hF
        refine jv_mem e35 ?_
        refine jv_aload_n hC 1 dX12_see_74 rfl ?_
        refine jv_pc 75 rfl ?_
        obtain ⟨g36, hF⟩ := hg_some hF
        refine jv_getR hC fl_X12_99 dX12_see_75 rfl g1 g36 ?_
        refine jv_bipush hC dX12_see_78 c8_13 ?_
        refine jv_dup2 hC dX12_see_80 rfl rfl ?_
        obtain ⟨g37, hF⟩ := hg_some hF
        obtain ⟨n38, sn38, in38⟩ := hm_ib_ok g37
        refine jv_iaload hC dX12_see_81 sn38 in38 ?_
        refine jv_iconst hC dX12_see_82 c32_1 ?_
        refine jv_iadd hC dX12_see_83 ?_
        refine jv_iastore hC dX12_see_84 sn38 in38 ?_
        obtain ⟨M39, e40, hF⟩ := hl_some hF
        refine jv_mem e40 ?_
        refine jv_aload_n hC 1 dX12_see_85 rfl ?_
        refine jv_pc 86 rfl ?_
        obtain ⟨r43, M42, c41, hF⟩ := hb_some hF
        refine jv_callV hC (st := []) [] (k_Md_seens c41) mm_Md_seens mi_Md_seens ml_X12_364 dX12_see_86 g1 rfl (Nat.le_of_ble_eq_true rfl) rfl rfl (Nat.le_of_ble_eq_true rfl) ?_
        refine jv_nf 89 [.int r43] rfl rfl ?_
        obtain ⟨rfl, rfl⟩ := hr_some hF
        exact jv_iret hC dX12_see_89
      · have hF := hi_pos h15 hF
        refine jv_iconst hC dX12_see_33 c32_m1 ?_
        obtain ⟨rfl, rfl⟩ := hr_some hF
        exact jv_iret hC dX12_see_34
set_option maxRecDepth 100000 in
set_option maxHeartbeats 4000000 in
theorem k_Md_spot {n : Nat} {S : hm_S} {v0 : Nat} {v1 : Int32} {v2 : Int32} {v3 : Int32} {M : hm_M} {r : Int32} {M' : hm_M} (hF : f_Md_spot S v0 v1 v2 v3 M = some (r, M')) : hm_KM yX12_spot cX12_spot 4 (some .int) 5 n S [.ref v0, .int v1, .int v2, .int v3] M (some (.int r)) M' := by
  refine hm_enter mm_Md_spot (Nat.le_of_ble_eq_true rfl) (fun X hC => ?_)
  show hm_U X 0 [(0, .ref v0), (1, .int v1), (2, .int v2), (3, .int v3)] [] M _
  unfold f_Md_spot at hF
  refine jv_aload_n hC 0 dX12_spot_0 rfl ?_
  refine jv_iconst hC dX12_spot_1 c32_0 ?_
  obtain ⟨g1, hF⟩ := hg_some hF
  refine jv_putI hC fl_X12_1 dX12_spot_2 rfl rfl rfl g1 ?_
  obtain ⟨M2, e3, hF⟩ := hl_some hF
  refine jv_mem e3 ?_
  refine jv_aload_n hC 0 dX12_spot_5 rfl ?_
  refine jv_iload_n hC 1 dX12_spot_6 rfl ?_
  obtain ⟨r6, M5, c4, hF⟩ := hb_some hF
  refine jv_callV hC (st := []) [.int v1] (k_Md_isPane c4) mm_Md_isPane mi_Md_isPane ml_X12_314 dX12_spot_7 g1 rfl (Nat.le_of_ble_eq_true rfl) rfl rfl (Nat.le_of_ble_eq_true rfl) ?_
  refine jv_nf 10 [.int r6] rfl rfl ?_
  refine jv_if_eq hC 21 dX12_spot_10 (by decide) (fun h7 => ?_) (fun h7 => ?_)
  · have hF := hi_pos h7 hF
    refine jv_iconst hC dX12_spot_21 c32_m1 ?_
    obtain ⟨rfl, rfl⟩ := hr_some hF
    exact jv_iret hC dX12_spot_22
  · have hF := hi_neg h7 hF
    refine jv_iload_n hC 2 dX12_spot_13 rfl ?_
    refine jv_iload_n hC 3 dX12_spot_14 rfl ?_
    obtain ⟨r10, M9, c8, hF⟩ := hb_some hF
    refine jv_callS hC (st := []) [.int v2, .int v3] (k_Md_isTime c8) mm_Md_isTime ms_Md_isTime ml_X12_317 dX12_spot_15 (Nat.le_of_ble_eq_true rfl) rfl rfl (Nat.le_of_ble_eq_true rfl) ?_
    refine jv_nf 18 [.int r10] rfl rfl ?_
    refine jv_if_ne hC 23 dX12_spot_18 (by decide) (fun h11 => ?_) (fun h11 => ?_)
    · have hF := hi_neg h11 hF
      refine jv_aload_n hC 0 dX12_spot_23 rfl ?_
      refine jv_iload_n hC 2 dX12_spot_24 rfl ?_
      refine jv_iload_n hC 3 dX12_spot_25 rfl ?_
      obtain ⟨M13, c12, hF⟩ := hv_some hF
      refine jv_callV hC (st := []) [.int v2, .int v3] (k_Md_findLight c12) mm_Md_findLight mi_Md_findLight ml_X12_298 dX12_spot_26 g1 rfl (Nat.le_of_ble_eq_true rfl) rfl rfl (Nat.le_of_ble_eq_true rfl) ?_
      refine jv_nf 29 [] rfl rfl ?_
      refine jv_aload_n hC 0 dX12_spot_29 rfl ?_
      obtain ⟨g14, hF⟩ := hg_some hF
      refine jv_getR hC fl_X12_106 dX12_spot_30 rfl g1 g14 ?_
      refine jv_iload_n hC 1 dX12_spot_33 rfl ?_
      obtain ⟨g15, hF⟩ := hg_some hF
      obtain ⟨n16, sn16, in16⟩ := hm_ib_ok g15
      refine jv_iaload hC dX12_spot_34 sn16 in16 ?_
      obtain ⟨rfl, rfl⟩ := hr_some hF
      exact jv_iret hC dX12_spot_35
    · have hF := hi_pos h11 hF
      refine jv_iconst hC dX12_spot_21 c32_m1 ?_
      obtain ⟨rfl, rfl⟩ := hr_some hF
      exact jv_iret hC dX12_spot_22
set_option maxRecDepth 100000 in
set_option maxHeartbeats 4000000 in
theorem k_Md_stains {n : Nat} {S : hm_S} {v0 : Nat} {v1 : Int32} {v2 : Int32} {v3 : Int32} {v4 : Int32} {M : hm_M} {r : Int32} {M' : hm_M} (hF : f_Md_stains S v0 v1 v2 v3 v4 M = some (r, M')) : hm_KM yX12_stains cX12_stains 5 (some .int) 6 n S [.ref v0, .int v1, .int v2, .int v3, .int v4] M (some (.int r)) M' := by
  refine hm_enter mm_Md_stains (Nat.le_of_ble_eq_true rfl) (fun X hC => ?_)
  show hm_U X 0 [(0, .ref v0), (1, .int v1), (2, .int v2), (3, .int v3), (4, .int v4)] [] M _
  unfold f_Md_stains at hF
  refine jv_aload_n hC 0 dX12_stains_0 rfl ?_
  refine jv_iconst hC dX12_stains_1 c32_0 ?_
  obtain ⟨g1, hF⟩ := hg_some hF
  refine jv_putI hC fl_X12_1 dX12_stains_2 rfl rfl rfl g1 ?_
  obtain ⟨M2, e3, hF⟩ := hl_some hF
  refine jv_mem e3 ?_
  refine jv_aload_n hC 0 dX12_stains_5 rfl ?_
  refine jv_iload_n hC 1 dX12_stains_6 rfl ?_
  refine jv_iload_n hC 2 dX12_stains_7 rfl ?_
  refine jv_iload_n hC 3 dX12_stains_8 rfl ?_
  refine jv_pc 9 rfl ?_
  refine jv_iload hC 4 dX12_stains_9 rfl ?_
  obtain ⟨r6, M5, c4, hF⟩ := hb_some hF
  refine jv_callV hC (st := []) [.int v1, .int v2, .int v3, .int v4] (k_Md_canStain c4) mm_Md_canStain mi_Md_canStain ml_X12_374 dX12_stains_11 g1 rfl (Nat.le_of_ble_eq_true rfl) rfl rfl (Nat.le_of_ble_eq_true rfl) ?_
  refine jv_nf 14 [.int r6] rfl rfl ?_
  refine jv_if_eq hC 29 dX12_stains_14 (by decide) (fun h7 => ?_) (fun h7 => ?_)
  · have hF := hi_pos h7 hF
    refine jv_iconst hC dX12_stains_29 c32_m1 ?_
    obtain ⟨rfl, rfl⟩ := hr_some hF
    exact jv_iret hC dX12_stains_30
  · have hF := hi_neg h7 hF
    refine jv_aload_n hC 0 dX12_stains_17 rfl ?_
    refine jv_iload_n hC 1 dX12_stains_18 rfl ?_
    refine jv_iload_n hC 2 dX12_stains_19 rfl ?_
    refine jv_iload_n hC 3 dX12_stains_20 rfl ?_
    refine jv_iload hC 4 dX12_stains_21 rfl ?_
    obtain ⟨r10, M9, c8, hF⟩ := hb_some hF
    refine jv_callV hC (st := []) [.int v1, .int v2, .int v3, .int v4] (k_Md_findStains c8) mm_Md_findStains mi_Md_findStains ml_X12_378 dX12_stains_23 g1 rfl (Nat.le_of_ble_eq_true rfl) rfl rfl (Nat.le_of_ble_eq_true rfl) ?_
    refine jv_nf 26 [.int r10] rfl rfl ?_
    refine jv_goto hC 30 dX12_stains_26 (by decide) ?_
    obtain ⟨rfl, rfl⟩ := hr_some hF
    exact jv_iret hC dX12_stains_30
set_option maxRecDepth 100000 in
set_option maxHeartbeats 4000000 in
theorem t_Md_stall_10 {X : hm_X} {n : Nat} {S : hm_S} (hC : hm_C X RX12 cX12_stall 12 (some .int) 6 n S) {k251 : Nat → Int32 → Int32 → Int32 → hm_M → Option (Int32 × hm_M)} (hk251 : ∀ (v0 : Nat) (v5 : Int32) (v8 : Int32) (v9 : Int32)  (M : hm_M) (r : Int32) (M' : hm_M), k251 v0 v5 v8 v9 M = some (r, M') → hm_U X 251 [(0, .ref v0), (5, .int v5), (8, .int v8), (9, .int v9)] [] M (hm_Q X (some (.int r)) M')) {k278 : Nat → Int32 → Int32 → Int32 → Int32 → Int32 → hm_M → Option (Int32 × hm_M)} (hk278 : ∀ (v0 : Nat) (v5 : Int32) (v8 : Int32) (v9 : Int32) (v10 : Int32) (v11 : Int32)  (M : hm_M) (r : Int32) (M' : hm_M), k278 v0 v5 v8 v9 v10 v11 M = some (r, M') → hm_U X 278 [(0, .ref v0), (5, .int v5), (8, .int v8), (9, .int v9), (10, .int v10), (11, .int v11)] [] M (hm_Q X (some (.int r)) M')) {v0 : Nat} {v5 : Int32} {v8 : Int32} {v9 : Int32} {v10 : Int32} {v11 : Int32} {M : hm_M} {r : Int32} {M' : hm_M} (hF : b_Md_stall_10 S k251 k278 v0 v5 v8 v9 v10 v11 M = some (r, M')) : hm_U X 278 [(0, .ref v0), (5, .int v5), (8, .int v8), (9, .int v9), (10, .int v10), (11, .int v11)] [] M (hm_Q X (some (.int r)) M') := by
  unfold b_Md_stall_10 at hF
  refine jv_aload_n hC 0 dX12_stall_278 rfl ?_
  obtain ⟨g1, hF⟩ := hg_some hF
  obtain ⟨g2, hF⟩ := hg_some hF
  refine jv_getR hC fl_X12_121 dX12_stall_279 rfl g1 g2 ?_
  refine jv_bipush hC dX12_stall_282 c8_64 ?_
  refine jv_iload hC 3 dX12_stall_284 rfl ?_
  refine jv_imul hC dX12_stall_286 ?_
  refine jv_iload hC 4 dX12_stall_287 rfl ?_
  refine jv_iadd hC dX12_stall_289 ?_
  refine jv_pc 290 rfl ?_
  obtain ⟨g3, hF⟩ := hg_some hF
  obtain ⟨n4, sn4, in4⟩ := hm_ib_ok g3
  refine jv_iaload hC dX12_stall_290 sn4 in4 ?_
  refine jv_ldcw hC cn_X12_353 dX12_stall_291 ?_
  refine jv_icmp_ge hC 323 dX12_stall_294 (by decide) (fun h5 => ?_) (fun h5 => ?_)
  · have hF := hi_pos h5 hF
    refine jv_iinc hC 4 [(10, .int (v10 + (1 : Int32))), (0, .ref v0), (5, .int v5), (8, .int v8), (9, .int v9), (11, .int v11)] dX12_stall_323 rfl c32_1 (by decide) rfl ?_
    refine jv_goto hC 278 dX12_stall_326 (by decide) ?_
    refine jv_sub [1, 2, 3, 4, 0, 5] (ls' := [(0, .ref v0), (5, .int v5), (8, .int v8), (9, .int v9), (10, .int (v10 + (1 : Int32))), (11, .int v11)]) rfl ?_
    exact jv_pc 278 rfl (hk278 _ _ _ _ _ _ _ _ _ hF)
  · have hF := hi_neg h5 hF
    refine jv_aload_n hC 0 dX12_stall_297 rfl ?_
    refine jv_getR hC fl_X12_121 dX12_stall_298 rfl g1 g2 ?_
    refine jv_bipush hC dX12_stall_301 c8_64 ?_
    refine jv_iload hC 3 dX12_stall_303 rfl ?_
    refine jv_imul hC dX12_stall_305 ?_
    refine jv_iload hC 4 dX12_stall_306 rfl ?_
    refine jv_iadd hC dX12_stall_308 ?_
    refine jv_pc 309 rfl ?_
    refine jv_iaload hC dX12_stall_309 sn4 in4 ?_
    refine jv_iload hC 2 dX12_stall_310 rfl ?_
    refine jv_iload hC 4 dX12_stall_312 rfl ?_
    obtain ⟨r8, M7, c6, hF⟩ := hb_some hF
    refine jv_callS hC (st := [.int (M.1 (M.2.2 v0 30) (((64 : Int32) * v9) + v10).toNatClampNeg)]) [.int v8, .int v10] (k_Md_steps c6) mm_Md_steps ms_Md_steps ml_X12_354 dX12_stall_314 (Nat.le_of_ble_eq_true rfl) rfl rfl (Nat.le_of_ble_eq_true rfl) ?_
    refine jv_nf 317 [.int r8, .int (M.1 (M.2.2 v0 30) (((64 : Int32) * v9) + v10).toNatClampNeg)] rfl rfl ?_
    refine jv_iadd hC dX12_stall_317 ?_
    refine jv_iload hC 5 dX12_stall_318 rfl ?_
    refine jv_icmp_eq hC 329 dX12_stall_320 (by decide) (fun h9 => ?_) (fun h9 => ?_)
    · have hF := hi_pos h9 hF
      refine jv_iload hC 4 dX12_stall_329 rfl ?_
      refine jv_istore hC [(8, .int v10), (0, .ref v0), (5, .int v5), (9, .int v9), (10, .int v10), (11, .int v11)] dX12_stall_331 (by decide) rfl ?_
      refine jv_iinc hC 3 [(9, .int (v9 + (1 : Int32))), (8, .int v10), (0, .ref v0), (5, .int v5), (10, .int v10), (11, .int v11)] dX12_stall_333 rfl c32_1 (by decide) rfl ?_
      refine jv_goto hC 251 dX12_stall_336 (by decide) ?_
      refine jv_sub [2, 3, 1, 0] (ls' := [(0, .ref v0), (5, .int v5), (8, .int v10), (9, .int (v9 + (1 : Int32)))]) rfl ?_
      exact jv_pc 251 rfl (hk251 _ _ _ _ _ _ _ hF)
    · have hF := hi_neg h9 hF
      refine jv_iinc hC 4 [(10, .int (v10 + (1 : Int32))), (0, .ref v0), (5, .int v5), (8, .int v8), (9, .int v9), (11, .int v11)] dX12_stall_323 rfl c32_1 (by decide) rfl ?_
      refine jv_goto hC 278 dX12_stall_326 (by decide) ?_
      refine jv_sub [1, 2, 3, 4, 0, 5] (ls' := [(0, .ref v0), (5, .int v5), (8, .int v8), (9, .int v9), (10, .int (v10 + (1 : Int32))), (11, .int v11)]) rfl ?_
      exact jv_pc 278 rfl (hk278 _ _ _ _ _ _ _ _ _ hF)
theorem s_Md_stall_10 {X : hm_X} {n : Nat} {S : hm_S} (hC : hm_C X RX12 cX12_stall 12 (some .int) 6 n S) {k251 : Nat → Int32 → Int32 → Int32 → hm_M → Option (Int32 × hm_M)} (hk251 : ∀ (v0 : Nat) (v5 : Int32) (v8 : Int32) (v9 : Int32)  (M : hm_M) (r : Int32) (M' : hm_M), k251 v0 v5 v8 v9 M = some (r, M') → hm_U X 251 [(0, .ref v0), (5, .int v5), (8, .int v8), (9, .int v9)] [] M (hm_Q X (some (.int r)) M')) : ∀ (q : Nat) (v0 : Nat) (v5 : Int32) (v8 : Int32) (v9 : Int32) (v10 : Int32) (v11 : Int32) (M : hm_M) (r : Int32) (M' : hm_M), f_Md_stall_10 S k251 q v0 v5 v8 v9 v10 v11 M = some (r, M') → hm_U X 278 [(0, .ref v0), (5, .int v5), (8, .int v8), (9, .int v9), (10, .int v10), (11, .int v11)] [] M (hm_Q X (some (.int r)) M') := by
  intro q
  induction q with
  | zero => intro v0 v5 v8 v9 v10 v11 M r M' hF; cases hF
  | succ q ih => intro v0 v5 v8 v9 v10 v11 M r M' hF; exact t_Md_stall_10 hC hk251 ih hF
set_option maxRecDepth 100000 in
set_option maxHeartbeats 4000000 in
theorem t_Md_stall_9 {X : hm_X} {n : Nat} {S : hm_S} (hC : hm_C X RX12 cX12_stall 12 (some .int) 6 n S) {k251 : Nat → Int32 → Int32 → Int32 → hm_M → Option (Int32 × hm_M)} (hk251 : ∀ (v0 : Nat) (v5 : Int32) (v8 : Int32) (v9 : Int32)  (M : hm_M) (r : Int32) (M' : hm_M), k251 v0 v5 v8 v9 M = some (r, M') → hm_U X 251 [(0, .ref v0), (5, .int v5), (8, .int v8), (9, .int v9)] [] M (hm_Q X (some (.int r)) M')) {v0 : Nat} {v5 : Int32} {v8 : Int32} {v9 : Int32} {M : hm_M} {r : Int32} {M' : hm_M} (hF : b_Md_stall_9 S k251 v0 v5 v8 v9 M = some (r, M')) : hm_U X 251 [(0, .ref v0), (5, .int v5), (8, .int v8), (9, .int v9)] [] M (hm_Q X (some (.int r)) M') := by
  unfold b_Md_stall_9 at hF
  refine jv_iload hC 3 dX12_stall_251 rfl ?_
  refine jv_iload hC 1 dX12_stall_253 rfl ?_
  refine jv_icmp_gt hC 339 dX12_stall_255 (by decide) (fun h1 => ?_) (fun h1 => ?_)
  · have hF := hi_pos h1 hF
    refine jv_iload hC 2 dX12_stall_339 rfl ?_
    obtain ⟨rfl, rfl⟩ := hr_some hF
    exact jv_iret hC dX12_stall_341
  · have hF := hi_neg h1 hF
    refine jv_iconst hC dX12_stall_258 c32_0 ?_
    refine jv_istore hC [(10, .int (0 : Int32)), (0, .ref v0), (5, .int v5), (8, .int v8), (9, .int v9)] dX12_stall_259 (by decide) rfl ?_
    refine jv_aload_n hC 1 dX12_stall_261 rfl ?_
    obtain ⟨g2, hF⟩ := hg_some hF
    obtain ⟨g3, hF⟩ := hg_some hF
    refine jv_getR hC fl_X12_121 dX12_stall_262 rfl g2 g3 ?_
    refine jv_bipush hC dX12_stall_265 c8_64 ?_
    refine jv_iload hC 4 dX12_stall_267 rfl ?_
    refine jv_iconst hC dX12_stall_269 c32_1 ?_
    refine jv_pc 270 rfl ?_
    refine jv_isub hC dX12_stall_270 ?_
    refine jv_imul hC dX12_stall_271 ?_
    refine jv_iload hC 3 dX12_stall_272 rfl ?_
    refine jv_iadd hC dX12_stall_274 ?_
    obtain ⟨g4, hF⟩ := hg_some hF
    obtain ⟨n5, sn5, in5⟩ := hm_ib_ok g4
    refine jv_iaload hC dX12_stall_275 sn5 in5 ?_
    obtain ⟨x6, e7, hF⟩ := hl_some hF
    refine jv_topI e7 ?_
    refine jv_istore hC [(11, .int x6), (10, .int (0 : Int32)), (0, .ref v0), (5, .int v5), (8, .int v8), (9, .int v9)] dX12_stall_276 (by decide) rfl ?_
    refine jv_sub [2, 3, 4, 5, 1, 0] (ls' := [(0, .ref v0), (5, .int v5), (8, .int v8), (9, .int v9), (10, .int (0 : Int32)), (11, .int x6)]) rfl ?_
    exact jv_pc 278 rfl (s_Md_stall_10 hC hk251 hN _ _ _ _ _ _ _ _ _ hF)
theorem s_Md_stall_9 {X : hm_X} {n : Nat} {S : hm_S} (hC : hm_C X RX12 cX12_stall 12 (some .int) 6 n S) : ∀ (q : Nat) (v0 : Nat) (v5 : Int32) (v8 : Int32) (v9 : Int32) (M : hm_M) (r : Int32) (M' : hm_M), f_Md_stall_9 S  q v0 v5 v8 v9 M = some (r, M') → hm_U X 251 [(0, .ref v0), (5, .int v5), (8, .int v8), (9, .int v9)] [] M (hm_Q X (some (.int r)) M') := by
  intro q
  induction q with
  | zero => intro v0 v5 v8 v9 M r M' hF; cases hF
  | succ q ih => intro v0 v5 v8 v9 M r M' hF; exact t_Md_stall_9 hC ih hF
set_option maxRecDepth 100000 in
set_option maxHeartbeats 4000000 in
theorem s_Md_stall_8 {X : hm_X} {n : Nat} {S : hm_S} (hC : hm_C X RX12 cX12_stall 12 (some .int) 6 n S) {k179 : Nat → Int32 → Int32 → Int32 → Int32 → hm_M → Option (Int32 × hm_M)} (hk179 : ∀ (v0 : Nat) (v5 : Int32) (v7 : Int32) (v8 : Int32) (v9 : Int32)  (M : hm_M) (r : Int32) (M' : hm_M), k179 v0 v5 v7 v8 v9 M = some (r, M') → hm_U X 179 [(0, .ref v0), (5, .int v5), (7, .int v7), (8, .int v8), (9, .int v9)] [] M (hm_Q X (some (.int r)) M')) {v0 : Nat} {v5 : Int32} {v8 : Int32} {v9 : Int32} {s0 : Int32} {M : hm_M} {r : Int32} {M' : hm_M} (hF : b_Md_stall_8 S k179 v0 v5 v8 v9 s0 M = some (r, M')) : hm_U X 231 [(0, .ref v0), (5, .int v5), (8, .int v8), (9, .int v9)] [.int s0] M (hm_Q X (some (.int r)) M') := by
  unfold b_Md_stall_8 at hF
  refine jv_istore hC [(7, .int s0), (0, .ref v0), (5, .int v5), (8, .int v8), (9, .int v9)] dX12_stall_231 (by decide) rfl ?_
  refine jv_iinc hC 4 [(9, .int (v9 + (1 : Int32))), (7, .int s0), (0, .ref v0), (5, .int v5), (8, .int v8)] dX12_stall_233 rfl c32_1 (by decide) rfl ?_
  refine jv_goto hC 179 dX12_stall_236 (by decide) ?_
  refine jv_sub [2, 3, 1, 4, 0] (ls' := [(0, .ref v0), (5, .int v5), (7, .int s0), (8, .int v8), (9, .int (v9 + (1 : Int32)))]) rfl ?_
  exact jv_pc 179 rfl (hk179 _ _ _ _ _ _ _ _ hF)
set_option maxRecDepth 100000 in
set_option maxHeartbeats 4000000 in
theorem s_Md_stall_7 {X : hm_X} {n : Nat} {S : hm_S} (hC : hm_C X RX12 cX12_stall 12 (some .int) 6 n S) {k179 : Nat → Int32 → Int32 → Int32 → Int32 → hm_M → Option (Int32 × hm_M)} (hk179 : ∀ (v0 : Nat) (v5 : Int32) (v7 : Int32) (v8 : Int32) (v9 : Int32)  (M : hm_M) (r : Int32) (M' : hm_M), k179 v0 v5 v7 v8 v9 M = some (r, M') → hm_U X 179 [(0, .ref v0), (5, .int v5), (7, .int v7), (8, .int v8), (9, .int v9)] [] M (hm_Q X (some (.int r)) M')) {v0 : Nat} {v5 : Int32} {v7 : Int32} {v9 : Int32} {s0 : Int32} {M : hm_M} {r : Int32} {M' : hm_M} (hF : b_Md_stall_7 S k179 v0 v5 v7 v9 s0 M = some (r, M')) : hm_U X 205 [(0, .ref v0), (5, .int v5), (7, .int v7), (9, .int v9)] [.int s0] M (hm_Q X (some (.int r)) M') := by
  unfold b_Md_stall_7 at hF
  refine jv_istore hC [(8, .int s0), (0, .ref v0), (5, .int v5), (7, .int v7), (9, .int v9)] dX12_stall_205 (by decide) rfl ?_
  refine jv_aload_n hC 1 dX12_stall_207 rfl ?_
  obtain ⟨g1, hF⟩ := hg_some hF
  obtain ⟨g2, hF⟩ := hg_some hF
  refine jv_getR hC fl_X12_121 dX12_stall_208 rfl g1 g2 ?_
  refine jv_iload hC 4 dX12_stall_211 rfl ?_
  obtain ⟨g3, hF⟩ := hg_some hF
  obtain ⟨n4, sn4, in4⟩ := hm_ib_ok g3
  refine jv_iaload hC dX12_stall_213 sn4 in4 ?_
  refine jv_iload hC 3 dX12_stall_214 rfl ?_
  refine jv_icmp_ge hC 229 dX12_stall_216 (by decide) (fun h5 => ?_) (fun h5 => ?_)
  · have hF := hi_pos h5 hF
    refine jv_iload hC 3 dX12_stall_229 rfl ?_
    refine jv_sub [1, 2, 0, 4] (ls' := [(0, .ref v0), (5, .int v5), (8, .int s0), (9, .int v9)]) rfl ?_
    exact jv_pc 231 rfl (s_Md_stall_8 hC hk179 hF)
  · have hF := hi_neg h5 hF
    refine jv_aload_n hC 1 dX12_stall_219 rfl ?_
    refine jv_getR hC fl_X12_121 dX12_stall_220 rfl g1 g2 ?_
    refine jv_iload hC 4 dX12_stall_223 rfl ?_
    refine jv_iaload hC dX12_stall_225 sn4 in4 ?_
    refine jv_goto hC 231 dX12_stall_226 (by decide) ?_
    refine jv_sub [1, 2, 0, 4] (ls' := [(0, .ref v0), (5, .int v5), (8, .int s0), (9, .int v9)]) rfl ?_
    exact jv_pc 231 rfl (s_Md_stall_8 hC hk179 hF)
set_option maxRecDepth 100000 in
set_option maxHeartbeats 4000000 in
theorem t_Md_stall_6 {X : hm_X} {n : Nat} {S : hm_S} (hC : hm_C X RX12 cX12_stall 12 (some .int) 6 n S) {k179 : Nat → Int32 → Int32 → Int32 → Int32 → hm_M → Option (Int32 × hm_M)} (hk179 : ∀ (v0 : Nat) (v5 : Int32) (v7 : Int32) (v8 : Int32) (v9 : Int32)  (M : hm_M) (r : Int32) (M' : hm_M), k179 v0 v5 v7 v8 v9 M = some (r, M') → hm_U X 179 [(0, .ref v0), (5, .int v5), (7, .int v7), (8, .int v8), (9, .int v9)] [] M (hm_Q X (some (.int r)) M')) {v0 : Nat} {v5 : Int32} {v7 : Int32} {v8 : Int32} {v9 : Int32} {M : hm_M} {r : Int32} {M' : hm_M} (hF : b_Md_stall_6 S k179 v0 v5 v7 v8 v9 M = some (r, M')) : hm_U X 179 [(0, .ref v0), (5, .int v5), (7, .int v7), (8, .int v8), (9, .int v9)] [] M (hm_Q X (some (.int r)) M') := by
  unfold b_Md_stall_6 at hF
  refine jv_iload hC 4 dX12_stall_179 rfl ?_
  refine jv_bipush hC dX12_stall_181 c8_64 ?_
  refine jv_icmp_ge hC 239 dX12_stall_183 (by decide) (fun h1 => ?_) (fun h1 => ?_)
  · have hF := hi_pos h1 hF
    refine jv_iload hC 1 dX12_stall_239 rfl ?_
    refine jv_iconst hC dX12_stall_241 c32_m1 ?_
    refine jv_icmp_ne hC 248 dX12_stall_242 (by decide) (fun h2 => ?_) (fun h2 => ?_)
    · have hF := hi_neg h2 hF
      refine jv_iconst hC dX12_stall_248 c32_1 ?_
      refine jv_istore hC [(9, .int (1 : Int32)), (0, .ref v0), (5, .int v5), (7, .int v7), (8, .int v8)] dX12_stall_249 (by decide) rfl ?_
      refine jv_sub [1, 2, 4, 0] (ls' := [(0, .ref v0), (5, .int v5), (8, .int v8), (9, .int (1 : Int32))]) rfl ?_
      exact jv_pc 251 rfl (s_Md_stall_9 hC hN _ _ _ _ _ _ _ hF)
    · have hF := hi_pos h2 hF
      refine jv_iload hC 2 dX12_stall_245 rfl ?_
      obtain ⟨rfl, rfl⟩ := hr_some hF
      exact jv_iret hC dX12_stall_247
  · have hF := hi_neg h1 hF
    refine jv_aload_n hC 0 dX12_stall_186 rfl ?_
    obtain ⟨g3, hF⟩ := hg_some hF
    obtain ⟨g4, hF⟩ := hg_some hF
    refine jv_getR hC fl_X12_121 dX12_stall_187 rfl g3 g4 ?_
    refine jv_iload hC 4 dX12_stall_190 rfl ?_
    obtain ⟨g5, hF⟩ := hg_some hF
    obtain ⟨n6, sn6, in6⟩ := hm_ib_ok g5
    refine jv_iaload hC dX12_stall_192 sn6 in6 ?_
    refine jv_iload hC 2 dX12_stall_193 rfl ?_
    refine jv_icmp_ge hC 203 dX12_stall_195 (by decide) (fun h7 => ?_) (fun h7 => ?_)
    · have hF := hi_pos h7 hF
      refine jv_iload hC 3 dX12_stall_203 rfl ?_
      refine jv_sub [0, 1, 2, 4] (ls' := [(0, .ref v0), (5, .int v5), (7, .int v7), (9, .int v9)]) rfl ?_
      exact jv_pc 205 rfl (s_Md_stall_7 hC hk179 hF)
    · have hF := hi_neg h7 hF
      refine jv_iload hC 4 dX12_stall_198 rfl ?_
      refine jv_goto hC 205 dX12_stall_200 (by decide) ?_
      refine jv_sub [0, 1, 2, 4] (ls' := [(0, .ref v0), (5, .int v5), (7, .int v7), (9, .int v9)]) rfl ?_
      exact jv_pc 205 rfl (s_Md_stall_7 hC hk179 hF)
theorem s_Md_stall_6 {X : hm_X} {n : Nat} {S : hm_S} (hC : hm_C X RX12 cX12_stall 12 (some .int) 6 n S) : ∀ (q : Nat) (v0 : Nat) (v5 : Int32) (v7 : Int32) (v8 : Int32) (v9 : Int32) (M : hm_M) (r : Int32) (M' : hm_M), f_Md_stall_6 S  q v0 v5 v7 v8 v9 M = some (r, M') → hm_U X 179 [(0, .ref v0), (5, .int v5), (7, .int v7), (8, .int v8), (9, .int v9)] [] M (hm_Q X (some (.int r)) M') := by
  intro q
  induction q with
  | zero => intro v0 v5 v7 v8 v9 M r M' hF; cases hF
  | succ q ih => intro v0 v5 v7 v8 v9 M r M' hF; exact t_Md_stall_6 hC ih hF
set_option maxRecDepth 100000 in
set_option maxHeartbeats 4000000 in
theorem s_Md_stall_5 {X : hm_X} {n : Nat} {S : hm_S} (hC : hm_C X RX12 cX12_stall 12 (some .int) 6 n S) {k95 : Nat → Int32 → Int32 → hm_M → Option (Int32 × hm_M)} (hk95 : ∀ (v0 : Nat) (v5 : Int32) (v7 : Int32)  (M : hm_M) (r : Int32) (M' : hm_M), k95 v0 v5 v7 M = some (r, M') → hm_U X 95 [(0, .ref v0), (5, .int v5), (7, .int v7)] [] M (hm_Q X (some (.int r)) M')) {k103 : Nat → Int32 → Int32 → Int32 → hm_M → Option (Int32 × hm_M)} (hk103 : ∀ (v0 : Nat) (v5 : Int32) (v7 : Int32) (v8 : Int32)  (M : hm_M) (r : Int32) (M' : hm_M), k103 v0 v5 v7 v8 M = some (r, M') → hm_U X 103 [(0, .ref v0), (5, .int v5), (7, .int v7), (8, .int v8)] [] M (hm_Q X (some (.int r)) M')) {v0 : Nat} {v5 : Int32} {v7 : Int32} {v8 : Int32} {s0 : Int32} {s1 : Int32} {s2 : Nat} {M : hm_M} {r : Int32} {M' : hm_M} (hF : b_Md_stall_5 S k95 k103 v0 v5 v7 v8 s0 s1 s2 M = some (r, M')) : hm_U X 155 [(0, .ref v0), (5, .int v5), (7, .int v7), (8, .int v8)] [.int s0, .int s1, .ref s2] M (hm_Q X (some (.int r)) M') := by
  unfold b_Md_stall_5 at hF
  obtain ⟨g1, hF⟩ := hg_some hF
  obtain ⟨n2, sn2, in2⟩ := hm_ib_ok g1
  refine jv_iastore hC dX12_stall_155 sn2 in2 ?_
  obtain ⟨M3, e4, hF⟩ := hl_some hF
  refine jv_mem e4 ?_
  refine jv_iinc hC 3 [(8, .int (v8 + (1 : Int32))), (0, .ref v0), (5, .int v5), (7, .int v7)] dX12_stall_156 rfl c32_1 (by decide) rfl ?_
  refine jv_goto hC 103 dX12_stall_159 (by decide) ?_
  refine jv_sub [1, 2, 3, 0] (ls' := [(0, .ref v0), (5, .int v5), (7, .int v7), (8, .int (v8 + (1 : Int32)))]) rfl ?_
  exact jv_pc 103 rfl (hk103 _ _ _ _ _ _ _ hF)
set_option maxRecDepth 100000 in
set_option maxHeartbeats 4000000 in
theorem t_Md_stall_4 {X : hm_X} {n : Nat} {S : hm_S} (hC : hm_C X RX12 cX12_stall 12 (some .int) 6 n S) {k95 : Nat → Int32 → Int32 → hm_M → Option (Int32 × hm_M)} (hk95 : ∀ (v0 : Nat) (v5 : Int32) (v7 : Int32)  (M : hm_M) (r : Int32) (M' : hm_M), k95 v0 v5 v7 M = some (r, M') → hm_U X 95 [(0, .ref v0), (5, .int v5), (7, .int v7)] [] M (hm_Q X (some (.int r)) M')) {k103 : Nat → Int32 → Int32 → Int32 → hm_M → Option (Int32 × hm_M)} (hk103 : ∀ (v0 : Nat) (v5 : Int32) (v7 : Int32) (v8 : Int32)  (M : hm_M) (r : Int32) (M' : hm_M), k103 v0 v5 v7 v8 M = some (r, M') → hm_U X 103 [(0, .ref v0), (5, .int v5), (7, .int v7), (8, .int v8)] [] M (hm_Q X (some (.int r)) M')) {v0 : Nat} {v5 : Int32} {v7 : Int32} {v8 : Int32} {M : hm_M} {r : Int32} {M' : hm_M} (hF : b_Md_stall_4 S k95 k103 v0 v5 v7 v8 M = some (r, M')) : hm_U X 103 [(0, .ref v0), (5, .int v5), (7, .int v7), (8, .int v8)] [] M (hm_Q X (some (.int r)) M') := by
  unfold b_Md_stall_4 at hF
  refine jv_iload hC 3 dX12_stall_103 rfl ?_
  refine jv_bipush hC dX12_stall_105 c8_64 ?_
  refine jv_icmp_ge hC 162 dX12_stall_107 (by decide) (fun h1 => ?_) (fun h1 => ?_)
  · have hF := hi_pos h1 hF
    refine jv_iinc hC 2 [(7, .int (v7 + (-1 : Int32))), (0, .ref v0), (5, .int v5), (8, .int v8)] dX12_stall_162 rfl c32_m1 (by decide) rfl ?_
    refine jv_goto hC 95 dX12_stall_165 (by decide) ?_
    refine jv_sub [1, 2, 0] (ls' := [(0, .ref v0), (5, .int v5), (7, .int (v7 + (-1 : Int32)))]) rfl ?_
    exact jv_pc 95 rfl (hk95 _ _ _ _ _ _ hF)
  · have hF := hi_neg h1 hF
    refine jv_aload_n hC 0 dX12_stall_110 rfl ?_
    obtain ⟨g2, hF⟩ := hg_some hF
    obtain ⟨g3, hF⟩ := hg_some hF
    refine jv_getR hC fl_X12_121 dX12_stall_111 rfl g2 g3 ?_
    refine jv_bipush hC dX12_stall_114 c8_64 ?_
    refine jv_iload hC 2 dX12_stall_116 rfl ?_
    refine jv_imul hC dX12_stall_118 ?_
    refine jv_iload hC 3 dX12_stall_119 rfl ?_
    refine jv_iadd hC dX12_stall_121 ?_
    refine jv_pc 122 rfl ?_
    refine jv_aload_n hC 0 dX12_stall_122 rfl ?_
    refine jv_getR hC fl_X12_121 dX12_stall_123 rfl g2 g3 ?_
    refine jv_bipush hC dX12_stall_126 c8_64 ?_
    refine jv_iload hC 2 dX12_stall_128 rfl ?_
    refine jv_imul hC dX12_stall_130 ?_
    refine jv_iload hC 3 dX12_stall_131 rfl ?_
    refine jv_iadd hC dX12_stall_133 ?_
    obtain ⟨g4, hF⟩ := hg_some hF
    obtain ⟨n5, sn5, in5⟩ := hm_ib_ok g4
    refine jv_iaload hC dX12_stall_134 sn5 in5 ?_
    refine jv_pc 135 rfl ?_
    refine jv_ldcw hC cn_X12_353 dX12_stall_135 ?_
    refine jv_icmp_lt hC 147 dX12_stall_138 (by decide) (fun h6 => ?_) (fun h6 => ?_)
    · have hF := hi_pos h6 hF
      refine jv_aload_n hC 0 dX12_stall_147 rfl ?_
      refine jv_iload hC 2 dX12_stall_148 rfl ?_
      refine jv_iload hC 3 dX12_stall_150 rfl ?_
      obtain ⟨r9, M8, c7, hF⟩ := hb_some hF
      refine jv_callV hC (st := [.int (((64 : Int32) * v7) + v8), .ref (M.2.2 v0 30)]) [.int v7, .int v8] (k_Md_leastFrom c7) mm_Md_leastFrom mi_Md_leastFrom ml_X12_361 dX12_stall_152 g2 rfl (Nat.le_of_ble_eq_true rfl) rfl rfl (Nat.le_of_ble_eq_true rfl) ?_
      refine jv_nf 155 [.int r9, .int (((64 : Int32) * v7) + v8), .ref (M.2.2 v0 30)] rfl rfl ?_
      exact jv_pc 155 rfl (s_Md_stall_5 hC hk95 hk103 hF)
    · have hF := hi_neg h6 hF
      refine jv_ldcw hC cn_X12_353 dX12_stall_141 ?_
      refine jv_goto hC 155 dX12_stall_144 (by decide) ?_
      exact jv_pc 155 rfl (s_Md_stall_5 hC hk95 hk103 hF)
theorem s_Md_stall_4 {X : hm_X} {n : Nat} {S : hm_S} (hC : hm_C X RX12 cX12_stall 12 (some .int) 6 n S) {k95 : Nat → Int32 → Int32 → hm_M → Option (Int32 × hm_M)} (hk95 : ∀ (v0 : Nat) (v5 : Int32) (v7 : Int32)  (M : hm_M) (r : Int32) (M' : hm_M), k95 v0 v5 v7 M = some (r, M') → hm_U X 95 [(0, .ref v0), (5, .int v5), (7, .int v7)] [] M (hm_Q X (some (.int r)) M')) : ∀ (q : Nat) (v0 : Nat) (v5 : Int32) (v7 : Int32) (v8 : Int32) (M : hm_M) (r : Int32) (M' : hm_M), f_Md_stall_4 S k95 q v0 v5 v7 v8 M = some (r, M') → hm_U X 103 [(0, .ref v0), (5, .int v5), (7, .int v7), (8, .int v8)] [] M (hm_Q X (some (.int r)) M') := by
  intro q
  induction q with
  | zero => intro v0 v5 v7 v8 M r M' hF; cases hF
  | succ q ih => intro v0 v5 v7 v8 M r M' hF; exact t_Md_stall_4 hC hk95 ih hF
set_option maxRecDepth 100000 in
set_option maxHeartbeats 4000000 in
theorem t_Md_stall_3 {X : hm_X} {n : Nat} {S : hm_S} (hC : hm_C X RX12 cX12_stall 12 (some .int) 6 n S) {k95 : Nat → Int32 → Int32 → hm_M → Option (Int32 × hm_M)} (hk95 : ∀ (v0 : Nat) (v5 : Int32) (v7 : Int32)  (M : hm_M) (r : Int32) (M' : hm_M), k95 v0 v5 v7 M = some (r, M') → hm_U X 95 [(0, .ref v0), (5, .int v5), (7, .int v7)] [] M (hm_Q X (some (.int r)) M')) {v0 : Nat} {v5 : Int32} {v7 : Int32} {M : hm_M} {r : Int32} {M' : hm_M} (hF : b_Md_stall_3 S k95 v0 v5 v7 M = some (r, M')) : hm_U X 95 [(0, .ref v0), (5, .int v5), (7, .int v7)] [] M (hm_Q X (some (.int r)) M') := by
  unfold b_Md_stall_3 at hF
  refine jv_iload hC 2 dX12_stall_95 rfl ?_
  refine jv_if_lt hC 168 dX12_stall_97 (by decide) (fun h1 => ?_) (fun h1 => ?_)
  · have hF := hi_pos h1 hF
    refine jv_ldcw hC cn_X12_353 dX12_stall_168 ?_
    refine jv_istore hC [(7, .int (100000000 : Int32)), (0, .ref v0), (5, .int v5)] dX12_stall_171 (by decide) rfl ?_
    refine jv_iconst hC dX12_stall_173 c32_m1 ?_
    refine jv_istore hC [(8, .int (-1 : Int32)), (7, .int (100000000 : Int32)), (0, .ref v0), (5, .int v5)] dX12_stall_174 (by decide) rfl ?_
    refine jv_iconst hC dX12_stall_176 c32_0 ?_
    refine jv_istore hC [(9, .int (0 : Int32)), (8, .int (-1 : Int32)), (7, .int (100000000 : Int32)), (0, .ref v0), (5, .int v5)] dX12_stall_177 (by decide) rfl ?_
    refine jv_sub [3, 4, 2, 1, 0] (ls' := [(0, .ref v0), (5, .int v5), (7, .int (100000000 : Int32)), (8, .int (-1 : Int32)), (9, .int (0 : Int32))]) rfl ?_
    exact jv_pc 179 rfl (s_Md_stall_6 hC hN _ _ _ _ _ _ _ _ hF)
  · have hF := hi_neg h1 hF
    refine jv_iconst hC dX12_stall_100 c32_0 ?_
    refine jv_istore hC [(8, .int (0 : Int32)), (0, .ref v0), (5, .int v5), (7, .int v7)] dX12_stall_101 (by decide) rfl ?_
    refine jv_sub [1, 2, 3, 0] (ls' := [(0, .ref v0), (5, .int v5), (7, .int v7), (8, .int (0 : Int32))]) rfl ?_
    exact jv_pc 103 rfl (s_Md_stall_4 hC hk95 hN _ _ _ _ _ _ _ hF)
theorem s_Md_stall_3 {X : hm_X} {n : Nat} {S : hm_S} (hC : hm_C X RX12 cX12_stall 12 (some .int) 6 n S) : ∀ (q : Nat) (v0 : Nat) (v5 : Int32) (v7 : Int32) (M : hm_M) (r : Int32) (M' : hm_M), f_Md_stall_3 S  q v0 v5 v7 M = some (r, M') → hm_U X 95 [(0, .ref v0), (5, .int v5), (7, .int v7)] [] M (hm_Q X (some (.int r)) M') := by
  intro q
  induction q with
  | zero => intro v0 v5 v7 M r M' hF; cases hF
  | succ q ih => intro v0 v5 v7 M r M' hF; exact t_Md_stall_3 hC ih hF
set_option maxRecDepth 100000 in
set_option maxHeartbeats 4000000 in
theorem t_Md_stall_2 {X : hm_X} {n : Nat} {S : hm_S} (hC : hm_C X RX12 cX12_stall 12 (some .int) 6 n S) {k64 : Nat → Int32 → Int32 → Int32 → Int32 → Int32 → Int32 → hm_M → Option (Int32 × hm_M)} (hk64 : ∀ (v0 : Nat) (v1 : Int32) (v2 : Int32) (v3 : Int32) (v5 : Int32) (v6 : Int32) (v7 : Int32)  (M : hm_M) (r : Int32) (M' : hm_M), k64 v0 v1 v2 v3 v5 v6 v7 M = some (r, M') → hm_U X 64 [(0, .ref v0), (1, .int v1), (2, .int v2), (3, .int v3), (5, .int v5), (6, .int v6), (7, .int v7)] [] M (hm_Q X (some (.int r)) M')) {v0 : Nat} {v1 : Int32} {v2 : Int32} {v3 : Int32} {v5 : Int32} {v6 : Int32} {v7 : Int32} {M : hm_M} {r : Int32} {M' : hm_M} (hF : b_Md_stall_2 S k64 v0 v1 v2 v3 v5 v6 v7 M = some (r, M')) : hm_U X 64 [(0, .ref v0), (1, .int v1), (2, .int v2), (3, .int v3), (5, .int v5), (6, .int v6), (7, .int v7)] [] M (hm_Q X (some (.int r)) M') := by
  unfold b_Md_stall_2 at hF
  refine jv_iload hC 6 dX12_stall_64 rfl ?_
  refine jv_iload hC 5 dX12_stall_66 rfl ?_
  refine jv_icmp_ge hC 89 dX12_stall_68 (by decide) (fun h1 => ?_) (fun h1 => ?_)
  · have hF := hi_pos h1 hF
    refine jv_iload hC 5 dX12_stall_89 rfl ?_
    refine jv_iconst hC dX12_stall_91 c32_2 ?_
    refine jv_isub hC dX12_stall_92 ?_
    obtain ⟨x2, e3, hF⟩ := hl_some hF
    refine jv_topI e3 ?_
    refine jv_istore hC [(7, .int x2), (0, .ref v0), (1, .int v1), (2, .int v2), (3, .int v3), (5, .int v5), (6, .int v6)] dX12_stall_93 (by decide) rfl ?_
    refine jv_sub [0, 1, 5] (ls' := [(7, .int x2), (0, .ref v0), (5, .int v5)]) rfl ?_
    refine jv_sub [1, 2, 0] (ls' := [(0, .ref v0), (5, .int v5), (7, .int x2)]) rfl ?_
    exact jv_pc 95 rfl (s_Md_stall_3 hC hN _ _ _ _ _ _ hF)
  · have hF := hi_neg h1 hF
    refine jv_aload_n hC 0 dX12_stall_71 rfl ?_
    refine jv_iload_n hC 1 dX12_stall_72 rfl ?_
    refine jv_iload_n hC 2 dX12_stall_73 rfl ?_
    refine jv_iload_n hC 3 dX12_stall_74 rfl ?_
    refine jv_iload hC 6 dX12_stall_75 rfl ?_
    refine jv_iadd hC dX12_stall_77 ?_
    refine jv_iload hC 6 dX12_stall_78 rfl ?_
    refine jv_pc 80 rfl ?_
    obtain ⟨g4, hF⟩ := hg_some hF
    obtain ⟨M6, c5, hF⟩ := hv_some hF
    refine jv_callV hC (st := []) [.int v1, .int v2, .int (v3 + v7), .int v7] (k_Md_findMay c5) mm_Md_findMay mi_Md_findMay ml_X12_357 dX12_stall_80 g4 rfl (Nat.le_of_ble_eq_true rfl) rfl rfl (Nat.le_of_ble_eq_true rfl) ?_
    refine jv_nf 83 [] rfl rfl ?_
    refine jv_iinc hC 6 [(7, .int (v7 + (1 : Int32))), (0, .ref v0), (1, .int v1), (2, .int v2), (3, .int v3), (5, .int v5), (6, .int v6)] dX12_stall_83 rfl c32_1 (by decide) rfl ?_
    refine jv_goto hC 64 dX12_stall_86 (by decide) ?_
    refine jv_sub [1, 2, 3, 4, 5, 6, 0] (ls' := [(0, .ref v0), (1, .int v1), (2, .int v2), (3, .int v3), (5, .int v5), (6, .int v6), (7, .int (v7 + (1 : Int32)))]) rfl ?_
    exact jv_pc 64 rfl (hk64 _ _ _ _ _ _ _ _ _ _ hF)
theorem s_Md_stall_2 {X : hm_X} {n : Nat} {S : hm_S} (hC : hm_C X RX12 cX12_stall 12 (some .int) 6 n S) : ∀ (q : Nat) (v0 : Nat) (v1 : Int32) (v2 : Int32) (v3 : Int32) (v5 : Int32) (v6 : Int32) (v7 : Int32) (M : hm_M) (r : Int32) (M' : hm_M), f_Md_stall_2 S  q v0 v1 v2 v3 v5 v6 v7 M = some (r, M') → hm_U X 64 [(0, .ref v0), (1, .int v1), (2, .int v2), (3, .int v3), (5, .int v5), (6, .int v6), (7, .int v7)] [] M (hm_Q X (some (.int r)) M') := by
  intro q
  induction q with
  | zero => intro v0 v1 v2 v3 v5 v6 v7 M r M' hF; cases hF
  | succ q ih => intro v0 v1 v2 v3 v5 v6 v7 M r M' hF; exact t_Md_stall_2 hC ih hF
set_option maxRecDepth 100000 in
set_option maxHeartbeats 4000000 in
theorem s_Md_stall_1 {X : hm_X} {n : Nat} {S : hm_S} (hC : hm_C X RX12 cX12_stall 12 (some .int) 6 n S) {v0 : Nat} {v1 : Int32} {v2 : Int32} {v3 : Int32} {v4 : Int32} {v5 : Int32} {M : hm_M} {r : Int32} {M' : hm_M} (hF : b_Md_stall_1 S v0 v1 v2 v3 v4 v5 M = some (r, M')) : hm_U X 53 [(0, .ref v0), (1, .int v1), (2, .int v2), (3, .int v3), (4, .int v4), (5, .int v5)] [] M (hm_Q X (some (.int r)) M') := by
  unfold b_Md_stall_1 at hF
  refine jv_iload hC 4 dX12_stall_53 rfl ?_
  refine jv_iload_n hC 3 dX12_stall_55 rfl ?_
  refine jv_isub hC dX12_stall_56 ?_
  refine jv_iconst hC dX12_stall_57 c32_1 ?_
  refine jv_iadd hC dX12_stall_58 ?_
  obtain ⟨x1, e2, hF⟩ := hl_some hF
  refine jv_topI e2 ?_
  refine jv_istore hC [(6, .int x1), (0, .ref v0), (1, .int v1), (2, .int v2), (3, .int v3), (4, .int v4), (5, .int v5)] dX12_stall_59 (by decide) rfl ?_
  refine jv_sub [0, 1, 2, 3, 4, 6] (ls' := [(6, .int x1), (0, .ref v0), (1, .int v1), (2, .int v2), (3, .int v3), (5, .int v5)]) rfl ?_
  refine jv_iconst hC dX12_stall_61 c32_0 ?_
  refine jv_pc 62 rfl ?_
  refine jv_istore hC [(7, .int (0 : Int32)), (6, .int x1), (0, .ref v0), (1, .int v1), (2, .int v2), (3, .int v3), (5, .int v5)] dX12_stall_62 (by decide) rfl ?_
  refine jv_sub [2, 3, 4, 5, 6, 1, 0] (ls' := [(0, .ref v0), (1, .int v1), (2, .int v2), (3, .int v3), (5, .int v5), (6, .int x1), (7, .int (0 : Int32))]) rfl ?_
  exact jv_pc 64 rfl (s_Md_stall_2 hC hN _ _ _ _ _ _ _ _ _ _ hF)
set_option maxRecDepth 100000 in
set_option maxHeartbeats 4000000 in
theorem k_Md_stall {n : Nat} {S : hm_S} {v0 : Nat} {v1 : Int32} {v2 : Int32} {v3 : Int32} {v4 : Int32} {v5 : Int32} {M : hm_M} {r : Int32} {M' : hm_M} (hF : f_Md_stall S v0 v1 v2 v3 v4 v5 M = some (r, M')) : hm_KM yX12_stall cX12_stall 12 (some .int) 6 n S [.ref v0, .int v1, .int v2, .int v3, .int v4, .int v5] M (some (.int r)) M' := by
  refine hm_enter mm_Md_stall (Nat.le_of_ble_eq_true rfl) (fun X hC => ?_)
  show hm_U X 0 [(0, .ref v0), (1, .int v1), (2, .int v2), (3, .int v3), (4, .int v4), (5, .int v5)] [] M _
  unfold f_Md_stall at hF
  refine jv_aload_n hC 0 dX12_stall_0 rfl ?_
  refine jv_iconst hC dX12_stall_1 c32_0 ?_
  obtain ⟨g1, hF⟩ := hg_some hF
  refine jv_putI hC fl_X12_1 dX12_stall_2 rfl rfl rfl g1 ?_
  obtain ⟨M2, e3, hF⟩ := hl_some hF
  refine jv_mem e3 ?_
  refine jv_aload_n hC 0 dX12_stall_5 rfl ?_
  refine jv_iload_n hC 1 dX12_stall_6 rfl ?_
  obtain ⟨r6, M5, c4, hF⟩ := hb_some hF
  refine jv_callV hC (st := []) [.int v1] (k_Md_isGuild c4) mm_Md_isGuild mi_Md_isGuild ml_X12_311 dX12_stall_7 g1 rfl (Nat.le_of_ble_eq_true rfl) rfl rfl (Nat.le_of_ble_eq_true rfl) ?_
  refine jv_nf 10 [.int r6] rfl rfl ?_
  refine jv_if_eq hC 51 dX12_stall_10 (by decide) (fun h7 => ?_) (fun h7 => ?_)
  · have hF := hi_pos h7 hF
    refine jv_iconst hC dX12_stall_51 c32_m1 ?_
    obtain ⟨rfl, rfl⟩ := hr_some hF
    exact jv_iret hC dX12_stall_52
  · have hF := hi_neg h7 hF
    refine jv_iload_n hC 2 dX12_stall_13 rfl ?_
    refine jv_iload_n hC 3 dX12_stall_14 rfl ?_
    obtain ⟨r10, M9, c8, hF⟩ := hb_some hF
    refine jv_callS hC (st := []) [.int v2, .int v3] (k_Md_isTime c8) mm_Md_isTime ms_Md_isTime ml_X12_317 dX12_stall_15 (Nat.le_of_ble_eq_true rfl) rfl rfl (Nat.le_of_ble_eq_true rfl) ?_
    refine jv_nf 18 [.int r10] rfl rfl ?_
    refine jv_if_eq hC 51 dX12_stall_18 (by decide) (fun h11 => ?_) (fun h11 => ?_)
    · have hF := hi_pos h11 hF
      refine jv_iconst hC dX12_stall_51 c32_m1 ?_
      obtain ⟨rfl, rfl⟩ := hr_some hF
      exact jv_iret hC dX12_stall_52
    · have hF := hi_neg h11 hF
      refine jv_iload hC 4 dX12_stall_21 rfl ?_
      refine jv_iload_n hC 3 dX12_stall_23 rfl ?_
      refine jv_bipush hC dX12_stall_24 c8_23 ?_
      obtain ⟨r14, M13, c12, hF⟩ := hb_some hF
      refine jv_callS hC (st := []) [.int v4, .int v3, .int (23 : Int32)] (k_Md_within c12) mm_Md_within ms_Md_within ml_X12_272 dX12_stall_26 (Nat.le_of_ble_eq_true rfl) rfl rfl (Nat.le_of_ble_eq_true rfl) ?_
      refine jv_nf 29 [.int r14] rfl rfl ?_
      refine jv_if_eq hC 51 dX12_stall_29 (by decide) (fun h15 => ?_) (fun h15 => ?_)
      · have hF := hi_pos h15 hF
        refine jv_iconst hC dX12_stall_51 c32_m1 ?_
        obtain ⟨rfl, rfl⟩ := hr_some hF
        exact jv_iret hC dX12_stall_52
      · have hF := hi_neg h15 hF
        refine jv_iload hC 5 dX12_stall_32 rfl ?_
        refine jv_iconst hC dX12_stall_34 c32_m1 ?_
        refine jv_icmp_eq hC 53 dX12_stall_35 (by decide) (fun h16 => ?_) (fun h16 => ?_)
        · have hF := hi_pos h16 hF
          exact jv_pc 53 rfl (s_Md_stall_1 hC hF)
        · have hF := hi_neg h16 hF
          refine jv_iload hC 5 dX12_stall_38 rfl ?_
          refine jv_iconst hC dX12_stall_40 c32_0 ?_
          refine jv_iload hC 4 dX12_stall_41 rfl ?_
          refine jv_iload_n hC 3 dX12_stall_43 rfl ?_
          refine jv_isub hC dX12_stall_44 ?_
          obtain ⟨r19, M18, c17, hF⟩ := hb_some hF
          refine jv_callS hC (st := []) [.int v5, .int (0 : Int32), .int (v4 - v3)] (k_Md_within c17) mm_Md_within ms_Md_within ml_X12_272 dX12_stall_45 (Nat.le_of_ble_eq_true rfl) rfl rfl (Nat.le_of_ble_eq_true rfl) ?_
          refine jv_nf 48 [.int r19] rfl rfl ?_
          refine jv_if_ne hC 53 dX12_stall_48 (by decide) (fun h20 => ?_) (fun h20 => ?_)
          · have hF := hi_neg h20 hF
            exact jv_pc 53 rfl (s_Md_stall_1 hC hF)
          · have hF := hi_pos h20 hF
            refine jv_iconst hC dX12_stall_51 c32_m1 ?_
            obtain ⟨rfl, rfl⟩ := hr_some hF
            exact jv_iret hC dX12_stall_52
set_option maxRecDepth 100000 in
set_option maxHeartbeats 4000000 in
theorem t_Md_stood_1 {X : hm_X} {n : Nat} {S : hm_S} (hC : hm_C X RX12 cX12_stood 10 (some .int) 6 n S) {k63 : Nat → Int32 → Int32 → Int32 → Int32 → Int32 → hm_M → Option (Int32 × hm_M)} (hk63 : ∀ (v0 : Nat) (v5 : Int32) (v6 : Int32) (v7 : Int32) (v8 : Int32) (v9 : Int32)  (M : hm_M) (r : Int32) (M' : hm_M), k63 v0 v5 v6 v7 v8 v9 M = some (r, M') → hm_U X 63 [(0, .ref v0), (5, .int v5), (6, .int v6), (7, .int v7), (8, .int v8), (9, .int v9)] [] M (hm_Q X (some (.int r)) M')) {v0 : Nat} {v5 : Int32} {v6 : Int32} {v7 : Int32} {v8 : Int32} {v9 : Int32} {M : hm_M} {r : Int32} {M' : hm_M} (hF : b_Md_stood_1 S k63 v0 v5 v6 v7 v8 v9 M = some (r, M')) : hm_U X 63 [(0, .ref v0), (5, .int v5), (6, .int v6), (7, .int v7), (8, .int v8), (9, .int v9)] [] M (hm_Q X (some (.int r)) M') := by
  unfold b_Md_stood_1 at hF
  refine jv_iload hC 5 dX12_stood_63 rfl ?_
  refine jv_bipush hC dX12_stood_65 c8_64 ?_
  refine jv_iload hC 1 dX12_stood_67 rfl ?_
  refine jv_imul hC dX12_stood_69 ?_
  refine jv_bipush hC dX12_stood_70 c8_64 ?_
  refine jv_iadd hC dX12_stood_72 ?_
  refine jv_icmp_ge hC 126 dX12_stood_73 (by decide) (fun h1 => ?_) (fun h1 => ?_)
  · have hF := hi_pos h1 hF
    refine jv_iload hC 2 dX12_stood_126 rfl ?_
    refine jv_if_eq hC 136 dX12_stood_128 (by decide) (fun h2 => ?_) (fun h2 => ?_)
    · have hF := hi_pos h2 hF
      refine jv_iload hC 4 dX12_stood_136 rfl ?_
      obtain ⟨rfl, rfl⟩ := hr_some hF
      exact jv_iret hC dX12_stood_138
    · have hF := hi_neg h2 hF
      refine jv_iload hC 3 dX12_stood_131 rfl ?_
      refine jv_goto hC 138 dX12_stood_133 (by decide) ?_
      obtain ⟨rfl, rfl⟩ := hr_some hF
      exact jv_iret hC dX12_stood_138
  · have hF := hi_neg h1 hF
    refine jv_aload_n hC 0 dX12_stood_76 rfl ?_
    obtain ⟨g3, hF⟩ := hg_some hF
    obtain ⟨g4, hF⟩ := hg_some hF
    refine jv_getR hC fl_X12_124 dX12_stood_77 rfl g3 g4 ?_
    refine jv_iload hC 5 dX12_stood_80 rfl ?_
    obtain ⟨g5, hF⟩ := hg_some hF
    obtain ⟨n6, sn6, in6⟩ := hm_ib_ok g5
    refine jv_iaload hC dX12_stood_82 sn6 in6 ?_
    refine jv_if_le hC 120 dX12_stood_83 (by decide) (fun h7 => ?_) (fun h7 => ?_)
    · have hF := hi_pos h7 hF
      refine jv_iinc hC 5 [(9, .int (v9 + (1 : Int32))), (0, .ref v0), (5, .int v5), (6, .int v6), (7, .int v7), (8, .int v8)] dX12_stood_120 rfl c32_1 (by decide) rfl ?_
      refine jv_goto hC 63 dX12_stood_123 (by decide) ?_
      refine jv_sub [1, 2, 3, 4, 5, 0] (ls' := [(0, .ref v0), (5, .int v5), (6, .int v6), (7, .int v7), (8, .int v8), (9, .int (v9 + (1 : Int32)))]) rfl ?_
      exact jv_pc 63 rfl (hk63 _ _ _ _ _ _ _ _ _ hF)
    · have hF := hi_neg h7 hF
      refine jv_aload_n hC 0 dX12_stood_86 rfl ?_
      obtain ⟨g8, hF⟩ := hg_some hF
      refine jv_getR hC fl_X12_127 dX12_stood_87 rfl g3 g8 ?_
      refine jv_iload hC 5 dX12_stood_90 rfl ?_
      obtain ⟨g9, hF⟩ := hg_some hF
      obtain ⟨n10, sn10, in10⟩ := hm_ib_ok g9
      refine jv_iaload hC dX12_stood_92 sn10 in10 ?_
      refine jv_if_le hC 120 dX12_stood_93 (by decide) (fun h11 => ?_) (fun h11 => ?_)
      · have hF := hi_pos h11 hF
        refine jv_iinc hC 5 [(9, .int (v9 + (1 : Int32))), (0, .ref v0), (5, .int v5), (6, .int v6), (7, .int v7), (8, .int v8)] dX12_stood_120 rfl c32_1 (by decide) rfl ?_
        refine jv_goto hC 63 dX12_stood_123 (by decide) ?_
        refine jv_sub [1, 2, 3, 4, 5, 0] (ls' := [(0, .ref v0), (5, .int v5), (6, .int v6), (7, .int v7), (8, .int v8), (9, .int (v9 + (1 : Int32)))]) rfl ?_
        exact jv_pc 63 rfl (hk63 _ _ _ _ _ _ _ _ _ hF)
      · have hF := hi_neg h11 hF
        refine jv_iload hC 3 dX12_stood_96 rfl ?_
        refine jv_aload_n hC 0 dX12_stood_98 rfl ?_
        obtain ⟨g12, hF⟩ := hg_some hF
        refine jv_getR hC fl_X12_130 dX12_stood_99 rfl g3 g12 ?_
        refine jv_iload hC 5 dX12_stood_102 rfl ?_
        obtain ⟨g13, hF⟩ := hg_some hF
        obtain ⟨n14, sn14, in14⟩ := hm_ib_ok g13
        refine jv_iaload hC dX12_stood_104 sn14 in14 ?_
        refine jv_ior hC dX12_stood_105 ?_
        obtain ⟨x15, e16, hF⟩ := hl_some hF
        refine jv_topI e16 ?_
        refine jv_istore hC [(7, .int x15), (0, .ref v0), (5, .int v5), (6, .int v6), (8, .int v8), (9, .int v9)] dX12_stood_106 (by decide) rfl ?_
        refine jv_pc 108 rfl ?_
        refine jv_iload hC 4 dX12_stood_108 rfl ?_
        refine jv_aload_n hC 1 dX12_stood_110 rfl ?_
        refine jv_getR hC fl_X12_130 dX12_stood_111 rfl g3 g12 ?_
        refine jv_iload hC 5 dX12_stood_114 rfl ?_
        refine jv_iaload hC dX12_stood_116 sn14 in14 ?_
        refine jv_iand hC dX12_stood_117 ?_
        obtain ⟨x17, e18, hF⟩ := hl_some hF
        refine jv_topI e18 ?_
        refine jv_istore hC [(8, .int x17), (7, .int x15), (0, .ref v0), (5, .int v5), (6, .int v6), (9, .int v9)] dX12_stood_118 (by decide) rfl ?_
        refine jv_iinc hC 5 [(9, .int (v9 + (1 : Int32))), (8, .int x17), (7, .int x15), (0, .ref v0), (5, .int v5), (6, .int v6)] dX12_stood_120 rfl c32_1 (by decide) rfl ?_
        refine jv_goto hC 63 dX12_stood_123 (by decide) ?_
        refine jv_sub [3, 4, 5, 2, 1, 0] (ls' := [(0, .ref v0), (5, .int v5), (6, .int v6), (7, .int x15), (8, .int x17), (9, .int (v9 + (1 : Int32)))]) rfl ?_
        exact jv_pc 63 rfl (hk63 _ _ _ _ _ _ _ _ _ hF)
theorem s_Md_stood_1 {X : hm_X} {n : Nat} {S : hm_S} (hC : hm_C X RX12 cX12_stood 10 (some .int) 6 n S) : ∀ (q : Nat) (v0 : Nat) (v5 : Int32) (v6 : Int32) (v7 : Int32) (v8 : Int32) (v9 : Int32) (M : hm_M) (r : Int32) (M' : hm_M), f_Md_stood_1 S  q v0 v5 v6 v7 v8 v9 M = some (r, M') → hm_U X 63 [(0, .ref v0), (5, .int v5), (6, .int v6), (7, .int v7), (8, .int v8), (9, .int v9)] [] M (hm_Q X (some (.int r)) M') := by
  intro q
  induction q with
  | zero => intro v0 v5 v6 v7 v8 v9 M r M' hF; cases hF
  | succ q ih => intro v0 v5 v6 v7 v8 v9 M r M' hF; exact t_Md_stood_1 hC ih hF
set_option maxRecDepth 100000 in
set_option maxHeartbeats 4000000 in
theorem k_Md_stood {n : Nat} {S : hm_S} {v0 : Nat} {v1 : Int32} {v2 : Int32} {v3 : Int32} {v4 : Int32} {v5 : Int32} {v6 : Int32} {M : hm_M} {r : Int32} {M' : hm_M} (hF : f_Md_stood S v0 v1 v2 v3 v4 v5 v6 M = some (r, M')) : hm_KM yX12_stood cX12_stood 10 (some .int) 6 n S [.ref v0, .int v1, .int v2, .int v3, .int v4, .int v5, .int v6] M (some (.int r)) M' := by
  refine hm_enter mm_Md_stood (Nat.le_of_ble_eq_true rfl) (fun X hC => ?_)
  show hm_U X 0 [(0, .ref v0), (1, .int v1), (2, .int v2), (3, .int v3), (4, .int v4), (5, .int v5), (6, .int v6)] [] M _
  unfold f_Md_stood at hF
  refine jv_aload_n hC 0 dX12_stood_0 rfl ?_
  refine jv_iconst hC dX12_stood_1 c32_0 ?_
  obtain ⟨g1, hF⟩ := hg_some hF
  refine jv_putI hC fl_X12_1 dX12_stood_2 rfl rfl rfl g1 ?_
  obtain ⟨M2, e3, hF⟩ := hl_some hF
  refine jv_mem e3 ?_
  refine jv_aload_n hC 0 dX12_stood_5 rfl ?_
  refine jv_iload_n hC 1 dX12_stood_6 rfl ?_
  refine jv_iload_n hC 2 dX12_stood_7 rfl ?_
  refine jv_iload_n hC 3 dX12_stood_8 rfl ?_
  refine jv_pc 9 rfl ?_
  refine jv_iload hC 4 dX12_stood_9 rfl ?_
  obtain ⟨r6, M5, c4, hF⟩ := hb_some hF
  refine jv_callV hC (st := []) [.int v1, .int v2, .int v3, .int v4] (k_Md_canStain c4) mm_Md_canStain mi_Md_canStain ml_X12_374 dX12_stood_11 g1 rfl (Nat.le_of_ble_eq_true rfl) rfl rfl (Nat.le_of_ble_eq_true rfl) ?_
  refine jv_nf 14 [.int r6] rfl rfl ?_
  refine jv_if_eq hC 41 dX12_stood_14 (by decide) (fun h7 => ?_) (fun h7 => ?_)
  · have hF := hi_pos h7 hF
    refine jv_iconst hC dX12_stood_41 c32_m1 ?_
    obtain ⟨rfl, rfl⟩ := hr_some hF
    exact jv_iret hC dX12_stood_42
  · have hF := hi_neg h7 hF
    refine jv_iload hC 5 dX12_stood_17 rfl ?_
    refine jv_iconst hC dX12_stood_19 c32_0 ?_
    refine jv_iload_n hC 3 dX12_stood_20 rfl ?_
    refine jv_iconst hC dX12_stood_21 c32_1 ?_
    refine jv_isub hC dX12_stood_22 ?_
    obtain ⟨r10, M9, c8, hF⟩ := hb_some hF
    refine jv_callS hC (st := []) [.int v5, .int (0 : Int32), .int (v3 - (1 : Int32))] (k_Md_within c8) mm_Md_within ms_Md_within ml_X12_272 dX12_stood_23 (Nat.le_of_ble_eq_true rfl) rfl rfl (Nat.le_of_ble_eq_true rfl) ?_
    refine jv_nf 26 [.int r10] rfl rfl ?_
    refine jv_if_eq hC 41 dX12_stood_26 (by decide) (fun h11 => ?_) (fun h11 => ?_)
    · have hF := hi_pos h11 hF
      refine jv_iconst hC dX12_stood_41 c32_m1 ?_
      obtain ⟨rfl, rfl⟩ := hr_some hF
      exact jv_iret hC dX12_stood_42
    · have hF := hi_neg h11 hF
      refine jv_aload_n hC 0 dX12_stood_29 rfl ?_
      refine jv_iload_n hC 1 dX12_stood_30 rfl ?_
      refine jv_iload_n hC 2 dX12_stood_31 rfl ?_
      refine jv_iload_n hC 3 dX12_stood_32 rfl ?_
      refine jv_iload hC 4 dX12_stood_33 rfl ?_
      obtain ⟨r14, M13, c12, hF⟩ := hb_some hF
      refine jv_callV hC (st := []) [.int v1, .int v2, .int v3, .int v4] (k_Md_findStains c12) mm_Md_findStains mi_Md_findStains ml_X12_378 dX12_stood_35 g1 rfl (Nat.le_of_ble_eq_true rfl) rfl rfl (Nat.le_of_ble_eq_true rfl) ?_
      refine jv_nf 38 [.int r14] rfl rfl ?_
      refine jv_if_ne hC 43 dX12_stood_38 (by decide) (fun h15 => ?_) (fun h15 => ?_)
      · have hF := hi_neg h15 hF
        refine jv_iconst hC dX12_stood_43 c32_0 ?_
        refine jv_istore hC [(7, .int (0 : Int32)), (0, .ref v0), (1, .int v1), (2, .int v2), (3, .int v3), (4, .int v4), (5, .int v5), (6, .int v6)] dX12_stood_44 (by decide) rfl ?_
        refine jv_sub [0, 1, 6, 7] (ls' := [(7, .int (0 : Int32)), (0, .ref v0), (5, .int v5), (6, .int v6)]) rfl ?_
        refine jv_iconst hC dX12_stood_46 c32_1 ?_
        refine jv_aload_n hC 1 dX12_stood_47 rfl ?_
        obtain ⟨r18, M17, c16, hF⟩ := hb_some hF
        refine jv_callV hC (st := [.int (1 : Int32)]) [] (k_Md_guilds c16) mm_Md_guilds mi_Md_guilds ml_X12_266 dX12_stood_48 g1 rfl (Nat.le_of_ble_eq_true rfl) rfl rfl (Nat.le_of_ble_eq_true rfl) ?_
        refine jv_nf 51 [.int r18, .int (1 : Int32)] rfl rfl ?_
        refine jv_ishl hC dX12_stood_51 ?_
        refine jv_iconst hC dX12_stood_52 c32_1 ?_
        refine jv_isub hC dX12_stood_53 ?_
        obtain ⟨x19, e20, hF⟩ := hl_some hF
        refine jv_topI e20 ?_
        refine jv_istore hC [(8, .int x19), (7, .int (0 : Int32)), (0, .ref v0), (5, .int v5), (6, .int v6)] dX12_stood_54 (by decide) rfl ?_
        refine jv_bipush hC dX12_stood_56 c8_64 ?_
        refine jv_iload hC 3 dX12_stood_58 rfl ?_
        refine jv_imul hC dX12_stood_60 ?_
        refine jv_pc 61 rfl ?_
        obtain ⟨x21, e22, hF⟩ := hl_some hF
        refine jv_topI e22 ?_
        refine jv_istore hC [(9, .int x21), (8, .int x19), (7, .int (0 : Int32)), (0, .ref v0), (5, .int v5), (6, .int v6)] dX12_stood_61 (by decide) rfl ?_
        refine jv_sub [3, 4, 5, 2, 1, 0] (ls' := [(0, .ref v0), (5, .int v5), (6, .int v6), (7, .int (0 : Int32)), (8, .int x19), (9, .int x21)]) rfl ?_
        exact jv_pc 63 rfl (s_Md_stood_1 hC hN _ _ _ _ _ _ _ _ _ hF)
      · have hF := hi_pos h15 hF
        refine jv_iconst hC dX12_stood_41 c32_m1 ?_
        obtain ⟨rfl, rfl⟩ := hr_some hF
        exact jv_iret hC dX12_stood_42
set_option maxRecDepth 100000 in
set_option maxHeartbeats 4000000 in
theorem k_Md_thrown {n : Nat} {S : hm_S} {v0 : Nat} {M : hm_M} {r : Int32} {M' : hm_M} (hF : f_Md_thrown S v0 M = some (r, M')) : hm_KM yX12_thrown cX12_thrown 1 (some .int) 1 n S [.ref v0] M (some (.int r)) M' := by
  refine hm_enter mm_Md_thrown (Nat.le_of_ble_eq_true rfl) (fun X hC => ?_)
  show hm_U X 0 [(0, .ref v0)] [] M _
  unfold f_Md_thrown at hF
  refine jv_aload_n hC 0 dX12_thrown_0 rfl ?_
  obtain ⟨g1, hF⟩ := hg_some hF
  refine jv_getI hC fl_X12_1 dX12_thrown_1 rfl g1 ?_
  obtain ⟨rfl, rfl⟩ := hr_some hF
  exact jv_iret hC dX12_thrown_4
set_option maxRecDepth 100000 in
set_option maxHeartbeats 4000000 in
theorem k_Md_undo {n : Nat} {S : hm_S} {v0 : Nat} {M : hm_M} {r : Int32} {M' : hm_M} (hF : f_Md_undo S v0 M = some (r, M')) : hm_KM yX12_undo cX12_undo 1 (some .boolean) 2 n S [.ref v0] M (some (.int r)) M' := by
  refine hm_enter mm_Md_undo (Nat.le_of_ble_eq_true rfl) (fun X hC => ?_)
  show hm_U X 0 [(0, .ref v0)] [] M _
  unfold f_Md_undo at hF
  refine jv_aload_n hC 0 dX12_undo_0 rfl ?_
  refine jv_iconst hC dX12_undo_1 c32_0 ?_
  obtain ⟨g1, hF⟩ := hg_some hF
  refine jv_putI hC fl_X12_1 dX12_undo_2 rfl rfl rfl g1 ?_
  obtain ⟨M2, e3, hF⟩ := hl_some hF
  refine jv_mem e3 ?_
  refine jv_aload_n hC 0 dX12_undo_5 rfl ?_
  refine jv_getI hC fl_X12_201 dX12_undo_6 rfl g1 ?_
  refine jv_if_ne hC 14 dX12_undo_9 (by decide) (fun h4 => ?_) (fun h4 => ?_)
  · have hF := hi_neg h4 hF
    refine jv_aload_n hC 0 dX12_undo_14 rfl ?_
    refine jv_dup hC dX12_undo_15 rfl ?_
    refine jv_getI hC fl_X12_201 dX12_undo_16 rfl g1 ?_
    refine jv_iconst hC dX12_undo_19 c32_1 ?_
    refine jv_isub hC dX12_undo_20 ?_
    refine jv_putI hC fl_X12_201 dX12_undo_21 rfl rfl rfl g1 ?_
    obtain ⟨M5, e6, hF⟩ := hl_some hF
    refine jv_mem e6 ?_
    refine jv_aload_n hC 0 dX12_undo_24 rfl ?_
    refine jv_pc 25 rfl ?_
    refine jv_iconst hC dX12_undo_25 c32_5 ?_
    refine jv_aload_n hC 0 dX12_undo_26 rfl ?_
    refine jv_getI hC fl_X12_201 dX12_undo_27 rfl g1 ?_
    refine jv_iadd hC dX12_undo_30 ?_
    refine jv_iconst hC dX12_undo_31 c32_0 ?_
    refine jv_bipush hC dX12_undo_32 c8_13 ?_
    obtain ⟨M8, c7, hF⟩ := hv_some hF
    refine jv_callV hC (st := []) [.int ((5 : Int32) + (M5.1 v0 21)), .int (0 : Int32), .int (13 : Int32)] (k_Md_copies c7) mm_Md_copies mi_Md_copies ml_X12_262 dX12_undo_34 g1 rfl (Nat.le_of_ble_eq_true rfl) rfl rfl (Nat.le_of_ble_eq_true rfl) ?_
    refine jv_nf 37 [] rfl rfl ?_
    refine jv_iconst hC dX12_undo_37 c32_1 ?_
    obtain ⟨rfl, rfl⟩ := hr_some hF
    exact jv_zret hC (by decide) dX12_undo_38
  · have hF := hi_pos h4 hF
    refine jv_iconst hC dX12_undo_12 c32_0 ?_
    obtain ⟨rfl, rfl⟩ := hr_some hF
    exact jv_zret hC (by decide) dX12_undo_13
set_option maxRecDepth 100000 in
set_option maxHeartbeats 4000000 in
theorem s_Md_when_4 {X : hm_X} {n : Nat} {S : hm_S} (hC : hm_C X RX12 cX12_when 7 (some .int) 6 n S) {k28 : Nat → Int32 → Int32 → Int32 → Int32 → Int32 → hm_M → Option (Int32 × hm_M)} (hk28 : ∀ (v0 : Nat) (v1 : Int32) (v2 : Int32) (v3 : Int32) (v4 : Int32) (v5 : Int32)  (M : hm_M) (r : Int32) (M' : hm_M), k28 v0 v1 v2 v3 v4 v5 M = some (r, M') → hm_U X 28 [(0, .ref v0), (1, .int v1), (2, .int v2), (3, .int v3), (4, .int v4), (5, .int v5)] [] M (hm_Q X (some (.int r)) M')) {v0 : Nat} {v1 : Int32} {v3 : Int32} {v4 : Int32} {v5 : Int32} {s0 : Int32} {M : hm_M} {r : Int32} {M' : hm_M} (hF : b_Md_when_4 S k28 v0 v1 v3 v4 v5 s0 M = some (r, M')) : hm_U X 104 [(0, .ref v0), (1, .int v1), (3, .int v3), (4, .int v4), (5, .int v5)] [.int s0] M (hm_Q X (some (.int r)) M') := by
  unfold b_Md_when_4 at hF
  refine jv_istore_n hC [(2, .int s0), (0, .ref v0), (1, .int v1), (3, .int v3), (4, .int v4), (5, .int v5)] dX12_when_104 (by decide) rfl ?_
  refine jv_iinc hC 5 [(5, .int (v5 + (1 : Int32))), (2, .int s0), (0, .ref v0), (1, .int v1), (3, .int v3), (4, .int v4)] dX12_when_105 rfl c32_1 (by decide) rfl ?_
  refine jv_goto hC 28 dX12_when_108 (by decide) ?_
  refine jv_sub [2, 3, 1, 4, 5, 0] (ls' := [(0, .ref v0), (1, .int v1), (2, .int s0), (3, .int v3), (4, .int v4), (5, .int (v5 + (1 : Int32)))]) rfl ?_
  exact jv_pc 28 rfl (hk28 _ _ _ _ _ _ _ _ _ hF)
set_option maxRecDepth 100000 in
set_option maxHeartbeats 4000000 in
theorem s_Md_when_3 {X : hm_X} {n : Nat} {S : hm_S} (hC : hm_C X RX12 cX12_when 7 (some .int) 6 n S) {k28 : Nat → Int32 → Int32 → Int32 → Int32 → Int32 → hm_M → Option (Int32 × hm_M)} (hk28 : ∀ (v0 : Nat) (v1 : Int32) (v2 : Int32) (v3 : Int32) (v4 : Int32) (v5 : Int32)  (M : hm_M) (r : Int32) (M' : hm_M), k28 v0 v1 v2 v3 v4 v5 M = some (r, M') → hm_U X 28 [(0, .ref v0), (1, .int v1), (2, .int v2), (3, .int v3), (4, .int v4), (5, .int v5)] [] M (hm_Q X (some (.int r)) M')) {v0 : Nat} {v1 : Int32} {v2 : Int32} {v3 : Int32} {v5 : Int32} {v6 : Int32} {s0 : Int32} {M : hm_M} {r : Int32} {M' : hm_M} (hF : b_Md_when_3 S k28 v0 v1 v2 v3 v5 v6 s0 M = some (r, M')) : hm_U X 90 [(0, .ref v0), (1, .int v1), (2, .int v2), (3, .int v3), (5, .int v5), (6, .int v6)] [.int s0] M (hm_Q X (some (.int r)) M') := by
  unfold b_Md_when_3 at hF
  refine jv_istore hC [(4, .int s0), (0, .ref v0), (1, .int v1), (2, .int v2), (3, .int v3), (5, .int v5), (6, .int v6)] dX12_when_90 (by decide) rfl ?_
  refine jv_iload hC 6 dX12_when_92 rfl ?_
  refine jv_iload_n hC 3 dX12_when_94 rfl ?_
  refine jv_icmp_ge hC 103 dX12_when_95 (by decide) (fun h1 => ?_) (fun h1 => ?_)
  · have hF := hi_pos h1 hF
    refine jv_iload_n hC 3 dX12_when_103 rfl ?_
    refine jv_sub [1, 2, 4, 0, 5] (ls' := [(0, .ref v0), (1, .int v1), (3, .int v3), (4, .int s0), (5, .int v5)]) rfl ?_
    exact jv_pc 104 rfl (s_Md_when_4 hC hk28 hF)
  · have hF := hi_neg h1 hF
    refine jv_iload hC 6 dX12_when_98 rfl ?_
    refine jv_goto hC 104 dX12_when_100 (by decide) ?_
    refine jv_sub [1, 2, 4, 0, 5] (ls' := [(0, .ref v0), (1, .int v1), (3, .int v3), (4, .int s0), (5, .int v5)]) rfl ?_
    exact jv_pc 104 rfl (s_Md_when_4 hC hk28 hF)
set_option maxRecDepth 100000 in
set_option maxHeartbeats 4000000 in
theorem s_Md_when_2 {X : hm_X} {n : Nat} {S : hm_S} (hC : hm_C X RX12 cX12_when 7 (some .int) 6 n S) {k28 : Nat → Int32 → Int32 → Int32 → Int32 → Int32 → hm_M → Option (Int32 × hm_M)} (hk28 : ∀ (v0 : Nat) (v1 : Int32) (v2 : Int32) (v3 : Int32) (v4 : Int32) (v5 : Int32)  (M : hm_M) (r : Int32) (M' : hm_M), k28 v0 v1 v2 v3 v4 v5 M = some (r, M') → hm_U X 28 [(0, .ref v0), (1, .int v1), (2, .int v2), (3, .int v3), (4, .int v4), (5, .int v5)] [] M (hm_Q X (some (.int r)) M')) {v0 : Nat} {v1 : Int32} {v2 : Int32} {v4 : Int32} {v5 : Int32} {v6 : Int32} {s0 : Int32} {M : hm_M} {r : Int32} {M' : hm_M} (hF : b_Md_when_2 S k28 v0 v1 v2 v4 v5 v6 s0 M = some (r, M')) : hm_U X 64 [(0, .ref v0), (1, .int v1), (2, .int v2), (4, .int v4), (5, .int v5), (6, .int v6)] [.int s0] M (hm_Q X (some (.int r)) M') := by
  unfold b_Md_when_2 at hF
  refine jv_istore_n hC [(3, .int s0), (0, .ref v0), (1, .int v1), (2, .int v2), (4, .int v4), (5, .int v5), (6, .int v6)] dX12_when_64 (by decide) rfl ?_
  refine jv_iload hC 6 dX12_when_65 rfl ?_
  refine jv_iload_n hC 3 dX12_when_67 rfl ?_
  refine jv_icmp_ge hC 75 dX12_when_68 (by decide) (fun h1 => ?_) (fun h1 => ?_)
  · have hF := hi_pos h1 hF
    refine jv_iload hC 6 dX12_when_75 rfl ?_
    refine jv_iload_n hC 3 dX12_when_77 rfl ?_
    refine jv_icmp_ne hC 88 dX12_when_78 (by decide) (fun h2 => ?_) (fun h2 => ?_)
    · have hF := hi_neg h2 hF
      refine jv_iload hC 4 dX12_when_88 rfl ?_
      refine jv_sub [1, 2, 3, 0, 5, 6] (ls' := [(0, .ref v0), (1, .int v1), (2, .int v2), (3, .int s0), (5, .int v5), (6, .int v6)]) rfl ?_
      exact jv_pc 90 rfl (s_Md_when_3 hC hk28 hF)
    · have hF := hi_pos h2 hF
      refine jv_iload hC 4 dX12_when_81 rfl ?_
      refine jv_iconst hC dX12_when_83 c32_1 ?_
      refine jv_iadd hC dX12_when_84 ?_
      refine jv_goto hC 90 dX12_when_85 (by decide) ?_
      refine jv_sub [1, 2, 3, 0, 5, 6] (ls' := [(0, .ref v0), (1, .int v1), (2, .int v2), (3, .int s0), (5, .int v5), (6, .int v6)]) rfl ?_
      exact jv_pc 90 rfl (s_Md_when_3 hC hk28 hF)
  · have hF := hi_neg h1 hF
    refine jv_iconst hC dX12_when_71 c32_1 ?_
    refine jv_goto hC 90 dX12_when_72 (by decide) ?_
    refine jv_sub [1, 2, 3, 0, 5, 6] (ls' := [(0, .ref v0), (1, .int v1), (2, .int v2), (3, .int s0), (5, .int v5), (6, .int v6)]) rfl ?_
    exact jv_pc 90 rfl (s_Md_when_3 hC hk28 hF)
set_option maxRecDepth 100000 in
set_option maxHeartbeats 4000000 in
theorem t_Md_when_1 {X : hm_X} {n : Nat} {S : hm_S} (hC : hm_C X RX12 cX12_when 7 (some .int) 6 n S) {k28 : Nat → Int32 → Int32 → Int32 → Int32 → Int32 → hm_M → Option (Int32 × hm_M)} (hk28 : ∀ (v0 : Nat) (v1 : Int32) (v2 : Int32) (v3 : Int32) (v4 : Int32) (v5 : Int32)  (M : hm_M) (r : Int32) (M' : hm_M), k28 v0 v1 v2 v3 v4 v5 M = some (r, M') → hm_U X 28 [(0, .ref v0), (1, .int v1), (2, .int v2), (3, .int v3), (4, .int v4), (5, .int v5)] [] M (hm_Q X (some (.int r)) M')) {v0 : Nat} {v1 : Int32} {v2 : Int32} {v3 : Int32} {v4 : Int32} {v5 : Int32} {M : hm_M} {r : Int32} {M' : hm_M} (hF : b_Md_when_1 S k28 v0 v1 v2 v3 v4 v5 M = some (r, M')) : hm_U X 28 [(0, .ref v0), (1, .int v1), (2, .int v2), (3, .int v3), (4, .int v4), (5, .int v5)] [] M (hm_Q X (some (.int r)) M') := by
  unfold b_Md_when_1 at hF
  refine jv_iload hC 5 dX12_when_28 rfl ?_
  refine jv_sipush hC dX12_when_30 c16_1248 ?_
  refine jv_icmp_ge hC 111 dX12_when_33 (by decide) (fun h1 => ?_) (fun h1 => ?_)
  · have hF := hi_pos h1 hF
    refine jv_iload_n hC 1 dX12_when_111 rfl ?_
    refine jv_if_ne hC 119 dX12_when_112 (by decide) (fun h2 => ?_) (fun h2 => ?_)
    · have hF := hi_neg h2 hF
      refine jv_iload_n hC 1 dX12_when_119 rfl ?_
      refine jv_iconst hC dX12_when_120 c32_1 ?_
      refine jv_icmp_ne hC 128 dX12_when_121 (by decide) (fun h3 => ?_) (fun h3 => ?_)
      · have hF := hi_neg h3 hF
        refine jv_iload hC 4 dX12_when_128 rfl ?_
        obtain ⟨rfl, rfl⟩ := hr_some hF
        exact jv_iret hC dX12_when_130
      · have hF := hi_pos h3 hF
        refine jv_iload_n hC 2 dX12_when_124 rfl ?_
        refine jv_goto hC 130 dX12_when_125 (by decide) ?_
        obtain ⟨rfl, rfl⟩ := hr_some hF
        exact jv_iret hC dX12_when_130
    · have hF := hi_pos h2 hF
      refine jv_iload_n hC 3 dX12_when_115 rfl ?_
      refine jv_goto hC 130 dX12_when_116 (by decide) ?_
      obtain ⟨rfl, rfl⟩ := hr_some hF
      exact jv_iret hC dX12_when_130
  · have hF := hi_neg h1 hF
    refine jv_aload_n hC 0 dX12_when_36 rfl ?_
    refine jv_iload hC 5 dX12_when_37 rfl ?_
    refine jv_bipush hC dX12_when_39 c8_24 ?_
    refine jv_idiv hC dX12_when_41 (by decide) ?_
    refine jv_iload hC 5 dX12_when_42 rfl ?_
    refine jv_bipush hC dX12_when_44 c8_24 ?_
    refine jv_irem hC dX12_when_46 (by decide) ?_
    refine jv_pc 47 rfl ?_
    obtain ⟨g4, hF⟩ := hg_some hF
    obtain ⟨r7, M6, c5, hF⟩ := hb_some hF
    refine jv_callV hC (st := []) [.int (v5 / (24 : Int32)), .int (v5 - v5 / (24 : Int32) * (24 : Int32))] (k_Md_candlesAt c5) mm_Md_candlesAt mi_Md_candlesAt ml_X12_367 dX12_when_47 g4 rfl (Nat.le_of_ble_eq_true rfl) rfl rfl (Nat.le_of_ble_eq_true rfl) ?_
    refine jv_nf 50 [.int r7] rfl rfl ?_
    refine jv_istore hC [(6, .int r7), (0, .ref v0), (1, .int v1), (2, .int v2), (3, .int v3), (4, .int v4), (5, .int v5)] dX12_when_50 (by decide) rfl ?_
    refine jv_iload hC 0 dX12_when_52 rfl ?_
    refine jv_iload_n hC 3 dX12_when_54 rfl ?_
    refine jv_icmp_ge hC 63 dX12_when_55 (by decide) (fun h8 => ?_) (fun h8 => ?_)
    · have hF := hi_pos h8 hF
      refine jv_iload_n hC 4 dX12_when_63 rfl ?_
      refine jv_sub [1, 2, 3, 5, 6, 0] (ls' := [(0, .ref v0), (1, .int v1), (2, .int v2), (4, .int v4), (5, .int v5), (6, .int r7)]) rfl ?_
      exact jv_pc 64 rfl (s_Md_when_2 hC hk28 hF)
    · have hF := hi_neg h8 hF
      refine jv_iload hC 6 dX12_when_58 rfl ?_
      refine jv_goto hC 64 dX12_when_60 (by decide) ?_
      refine jv_sub [1, 2, 3, 5, 6, 0] (ls' := [(0, .ref v0), (1, .int v1), (2, .int v2), (4, .int v4), (5, .int v5), (6, .int r7)]) rfl ?_
      exact jv_pc 64 rfl (s_Md_when_2 hC hk28 hF)
theorem s_Md_when_1 {X : hm_X} {n : Nat} {S : hm_S} (hC : hm_C X RX12 cX12_when 7 (some .int) 6 n S) : ∀ (q : Nat) (v0 : Nat) (v1 : Int32) (v2 : Int32) (v3 : Int32) (v4 : Int32) (v5 : Int32) (M : hm_M) (r : Int32) (M' : hm_M), f_Md_when_1 S  q v0 v1 v2 v3 v4 v5 M = some (r, M') → hm_U X 28 [(0, .ref v0), (1, .int v1), (2, .int v2), (3, .int v3), (4, .int v4), (5, .int v5)] [] M (hm_Q X (some (.int r)) M') := by
  intro q
  induction q with
  | zero => intro v0 v1 v2 v3 v4 v5 M r M' hF; cases hF
  | succ q ih => intro v0 v1 v2 v3 v4 v5 M r M' hF; exact t_Md_when_1 hC ih hF
set_option maxRecDepth 100000 in
set_option maxHeartbeats 4000000 in
theorem k_Md_when {n : Nat} {S : hm_S} {v0 : Nat} {v1 : Int32} {M : hm_M} {r : Int32} {M' : hm_M} (hF : f_Md_when S v0 v1 M = some (r, M')) : hm_KM yX12_when cX12_when 7 (some .int) 6 n S [.ref v0, .int v1] M (some (.int r)) M' := by
  refine hm_enter mm_Md_when (Nat.le_of_ble_eq_true rfl) (fun X hC => ?_)
  show hm_U X 0 [(0, .ref v0), (1, .int v1)] [] M _
  unfold f_Md_when at hF
  refine jv_aload_n hC 0 dX12_when_0 rfl ?_
  refine jv_iconst hC dX12_when_1 c32_0 ?_
  obtain ⟨g1, hF⟩ := hg_some hF
  refine jv_putI hC fl_X12_1 dX12_when_2 rfl rfl rfl g1 ?_
  obtain ⟨M2, e3, hF⟩ := hl_some hF
  refine jv_mem e3 ?_
  refine jv_iload_n hC 1 dX12_when_5 rfl ?_
  refine jv_iconst hC dX12_when_6 c32_0 ?_
  refine jv_iconst hC dX12_when_7 c32_2 ?_
  obtain ⟨r6, M5, c4, hF⟩ := hb_some hF
  refine jv_callS hC (st := []) [.int v1, .int (0 : Int32), .int (2 : Int32)] (k_Md_within c4) mm_Md_within ms_Md_within ml_X12_272 dX12_when_8 (Nat.le_of_ble_eq_true rfl) rfl rfl (Nat.le_of_ble_eq_true rfl) ?_
  refine jv_nf 11 [.int r6] rfl rfl ?_
  refine jv_if_ne hC 16 dX12_when_11 (by decide) (fun h7 => ?_) (fun h7 => ?_)
  · have hF := hi_neg h7 hF
    refine jv_ldcw hC cn_X12_353 dX12_when_16 ?_
    refine jv_istore_n hC [(2, .int (100000000 : Int32)), (0, .ref v0), (1, .int v1)] dX12_when_19 (by decide) rfl ?_
    refine jv_iconst hC dX12_when_20 c32_0 ?_
    refine jv_istore_n hC [(3, .int (0 : Int32)), (2, .int (100000000 : Int32)), (0, .ref v0), (1, .int v1)] dX12_when_21 (by decide) rfl ?_
    refine jv_iconst hC dX12_when_22 c32_0 ?_
    refine jv_istore hC [(4, .int (0 : Int32)), (3, .int (0 : Int32)), (2, .int (100000000 : Int32)), (0, .ref v0), (1, .int v1)] dX12_when_23 (by decide) rfl ?_
    refine jv_iconst hC dX12_when_25 c32_0 ?_
    refine jv_pc 26 rfl ?_
    refine jv_istore hC [(5, .int (0 : Int32)), (4, .int (0 : Int32)), (3, .int (0 : Int32)), (2, .int (100000000 : Int32)), (0, .ref v0), (1, .int v1)] dX12_when_26 (by decide) rfl ?_
    refine jv_sub [4, 5, 3, 2, 1, 0] (ls' := [(0, .ref v0), (1, .int v1), (2, .int (100000000 : Int32)), (3, .int (0 : Int32)), (4, .int (0 : Int32)), (5, .int (0 : Int32))]) rfl ?_
    exact jv_pc 28 rfl (s_Md_when_1 hC hN _ _ _ _ _ _ _ _ _ hF)
  · have hF := hi_pos h7 hF
    refine jv_iconst hC dX12_when_14 c32_m1 ?_
    obtain ⟨rfl, rfl⟩ := hr_some hF
    exact jv_iret hC dX12_when_15
set_option maxRecDepth 100000 in
set_option maxHeartbeats 4000000 in
theorem k_Md_worth {n : Nat} {S : hm_S} {v0 : Nat} {v1 : Int32} {v2 : Int32} {M : hm_M} {r : Int32} {M' : hm_M} (hF : f_Md_worth S v0 v1 v2 M = some (r, M')) : hm_KM yX12_worth cX12_worth 3 (some .int) 7 n S [.ref v0, .int v1, .int v2] M (some (.int r)) M' := by
  refine hm_enter mm_Md_worth (Nat.le_of_ble_eq_true rfl) (fun X hC => ?_)
  show hm_U X 0 [(0, .ref v0), (1, .int v1), (2, .int v2)] [] M _
  unfold f_Md_worth at hF
  refine jv_aload_n hC 0 dX12_worth_0 rfl ?_
  refine jv_iconst hC dX12_worth_1 c32_0 ?_
  obtain ⟨g1, hF⟩ := hg_some hF
  refine jv_putI hC fl_X12_1 dX12_worth_2 rfl rfl rfl g1 ?_
  obtain ⟨M2, e3, hF⟩ := hl_some hF
  refine jv_mem e3 ?_
  refine jv_aload_n hC 0 dX12_worth_5 rfl ?_
  refine jv_iload_n hC 1 dX12_worth_6 rfl ?_
  obtain ⟨r6, M5, c4, hF⟩ := hb_some hF
  refine jv_callV hC (st := []) [.int v1] (k_Md_isGuild c4) mm_Md_isGuild mi_Md_isGuild ml_X12_311 dX12_worth_7 g1 rfl (Nat.le_of_ble_eq_true rfl) rfl rfl (Nat.le_of_ble_eq_true rfl) ?_
  refine jv_nf 10 [.int r6] rfl rfl ?_
  refine jv_if_eq hC 21 dX12_worth_10 (by decide) (fun h7 => ?_) (fun h7 => ?_)
  · have hF := hi_pos h7 hF
    refine jv_iconst hC dX12_worth_21 c32_m1 ?_
    obtain ⟨rfl, rfl⟩ := hr_some hF
    exact jv_iret hC dX12_worth_22
  · have hF := hi_neg h7 hF
    refine jv_aload_n hC 0 dX12_worth_13 rfl ?_
    refine jv_iload_n hC 2 dX12_worth_14 rfl ?_
    obtain ⟨r10, M9, c8, hF⟩ := hb_some hF
    refine jv_callV hC (st := []) [.int v2] (k_Md_isPane c8) mm_Md_isPane mi_Md_isPane ml_X12_314 dX12_worth_15 g1 rfl (Nat.le_of_ble_eq_true rfl) rfl rfl (Nat.le_of_ble_eq_true rfl) ?_
    refine jv_nf 18 [.int r10] rfl rfl ?_
    refine jv_if_ne hC 23 dX12_worth_18 (by decide) (fun h11 => ?_) (fun h11 => ?_)
    · have hF := hi_neg h11 hF
      refine jv_aload_n hC 0 dX12_worth_23 rfl ?_
      obtain ⟨M13, c12, hF⟩ := hv_some hF
      refine jv_callV hC (st := []) [] (k_Md_findYields c12) mm_Md_findYields mi_Md_findYields ml_X12_320 dX12_worth_24 g1 rfl (Nat.le_of_ble_eq_true rfl) rfl rfl (Nat.le_of_ble_eq_true rfl) ?_
      refine jv_nf 27 [] rfl rfl ?_
      refine jv_aload_n hC 0 dX12_worth_27 rfl ?_
      refine jv_iload_n hC 1 dX12_worth_28 rfl ?_
      refine jv_iload_n hC 2 dX12_worth_29 rfl ?_
      obtain ⟨r16, M15, c14, hF⟩ := hb_some hF
      refine jv_callV hC (st := []) [.int v1, .int v2] (k_Md_worthOf c14) mm_Md_worthOf mi_Md_worthOf ml_X12_329 dX12_worth_30 g1 rfl (Nat.le_of_ble_eq_true rfl) rfl rfl (Nat.le_of_ble_eq_true rfl) ?_
      refine jv_nf 33 [.int r16] rfl rfl ?_
      obtain ⟨rfl, rfl⟩ := hr_some hF
      exact jv_iret hC dX12_worth_33
    · have hF := hi_pos h11 hF
      refine jv_iconst hC dX12_worth_21 c32_m1 ?_
      obtain ⟨rfl, rfl⟩ := hr_some hF
      exact jv_iret hC dX12_worth_22
set_option maxRecDepth 100000 in
set_option maxHeartbeats 4000000 in
theorem k_Md_yields {n : Nat} {S : hm_S} {v0 : Nat} {v1 : Int32} {M : hm_M} {r : Int32} {M' : hm_M} (hF : f_Md_yields S v0 v1 M = some (r, M')) : hm_KM yX12_yields cX12_yields 2 (some .int) 7 n S [.ref v0, .int v1] M (some (.int r)) M' := by
  refine hm_enter mm_Md_yields (Nat.le_of_ble_eq_true rfl) (fun X hC => ?_)
  show hm_U X 0 [(0, .ref v0), (1, .int v1)] [] M _
  unfold f_Md_yields at hF
  refine jv_aload_n hC 0 dX12_yields_0 rfl ?_
  refine jv_iconst hC dX12_yields_1 c32_0 ?_
  obtain ⟨g1, hF⟩ := hg_some hF
  refine jv_putI hC fl_X12_1 dX12_yields_2 rfl rfl rfl g1 ?_
  obtain ⟨M2, e3, hF⟩ := hl_some hF
  refine jv_mem e3 ?_
  refine jv_aload_n hC 0 dX12_yields_5 rfl ?_
  refine jv_iload_n hC 1 dX12_yields_6 rfl ?_
  obtain ⟨r6, M5, c4, hF⟩ := hb_some hF
  refine jv_callV hC (st := []) [.int v1] (k_Md_isPane c4) mm_Md_isPane mi_Md_isPane ml_X12_314 dX12_yields_7 g1 rfl (Nat.le_of_ble_eq_true rfl) rfl rfl (Nat.le_of_ble_eq_true rfl) ?_
  refine jv_nf 10 [.int r6] rfl rfl ?_
  refine jv_if_ne hC 15 dX12_yields_10 (by decide) (fun h7 => ?_) (fun h7 => ?_)
  · have hF := hi_neg h7 hF
    refine jv_aload_n hC 0 dX12_yields_15 rfl ?_
    obtain ⟨M9, c8, hF⟩ := hv_some hF
    refine jv_callV hC (st := []) [] (k_Md_findYields c8) mm_Md_findYields mi_Md_findYields ml_X12_320 dX12_yields_16 g1 rfl (Nat.le_of_ble_eq_true rfl) rfl rfl (Nat.le_of_ble_eq_true rfl) ?_
    refine jv_nf 19 [] rfl rfl ?_
    refine jv_aload_n hC 0 dX12_yields_19 rfl ?_
    obtain ⟨g10, hF⟩ := hg_some hF
    refine jv_getR hC fl_X12_109 dX12_yields_20 rfl g1 g10 ?_
    refine jv_iload_n hC 1 dX12_yields_23 rfl ?_
    obtain ⟨g11, hF⟩ := hg_some hF
    obtain ⟨n12, sn12, in12⟩ := hm_ib_ok g11
    refine jv_iaload hC dX12_yields_24 sn12 in12 ?_
    obtain ⟨rfl, rfl⟩ := hr_some hF
    exact jv_iret hC dX12_yields_25
  · have hF := hi_pos h7 hF
    refine jv_iconst hC dX12_yields_13 c32_m1 ?_
    obtain ⟨rfl, rfl⟩ := hr_some hF
    exact jv_iret hC dX12_yields_14
