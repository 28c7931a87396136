/-! by program: the machine runs them -/
set_option maxRecDepth 100000 in
set_option maxHeartbeats 4000000 in
theorem ke_Md_takePart {n : Nat} {S : hm_S} {rP : Nat → Int32 → hm_M → Option hm_M} {dP : Nat} (h50 : 50 ≤ dP) (hrP : ∀ (a0 : Nat) (a1 : Int32) (M : hm_M) (M' : hm_M), rP a0 a1 M = some M' → hm_KM yX12_takePart cX12_takePart 4 none dP n S [.ref a0, .int a1] M none M') {v0 : Nat} {v1 : Int32} {M : hm_M} {M' : hm_M} (hF : e_Md_takePart S rP v0 v1 M = some M') : hm_KM yX12_takePart cX12_takePart 4 none (dP + 5) n S [.ref v0, .int v1] M none M' := by
  refine hm_enter mm_Md_takePart (Nat.le_of_ble_eq_true rfl) (fun X hC => ?_)
  show hm_U X 0 [(0, .ref v0), (1, .int v1)] [] M _
  unfold e_Md_takePart at hF
  refine jv_aload_n hC 0 dX12_takePart_0 rfl ?_
  obtain ⟨g1, hF⟩ := hg_some hF
  refine jv_getI hC fl_X12_159 dX12_takePart_1 rfl g1 ?_
  refine jv_if_le hC 8 dX12_takePart_4 (by decide) (fun h2 => ?_) (fun h2 => ?_)
  · have hF := hi_pos h2 hF
    refine jv_aload_n hC 0 dX12_takePart_8 rfl ?_
    obtain ⟨g3, hF⟩ := hg_some hF
    refine jv_getR hC fl_X12_24 dX12_takePart_9 rfl g1 g3 ?_
    refine jv_aload_n hC 0 dX12_takePart_12 rfl ?_
    refine jv_getI hC fl_X12_156 dX12_takePart_13 rfl g1 ?_
    obtain ⟨g4, hF⟩ := hg_some hF
    obtain ⟨n5, sn5, in5⟩ := hm_ib_ok g4
    refine jv_iaload hC dX12_takePart_16 sn5 in5 ?_
    refine jv_iconst hC dX12_takePart_17 c32_2 ?_
    refine jv_icmp_ne hC 25 dX12_takePart_18 (by decide) (fun h6 => ?_) (fun h6 => ?_)
    · have hF := hi_neg h6 hF
      refine jv_iconst hC dX12_takePart_25 c32_0 ?_
      exact jv_pc 26 rfl (s_Md_takePart_1 h50 hrP hC hF)
    · have hF := hi_pos h6 hF
      refine jv_iconst hC dX12_takePart_21 c32_1 ?_
      refine jv_goto hC 26 dX12_takePart_22 (by decide) ?_
      exact jv_pc 26 rfl (s_Md_takePart_1 h50 hrP hC hF)
  · have hF := hi_neg h2 hF
    obtain rfl := hr_somev hF
    exact jv_vret hC dX12_takePart_7
theorem k_Md_takePart {n : Nat} {S : hm_S} : ∀ (q : Nat) {v0 : Nat} {v1 : Int32} {M : hm_M} {M' : hm_M}, f_Md_takePart S q v0 v1 M = some M' → hm_KM yX12_takePart cX12_takePart 4 none (50 + 5 * q) n S [.ref v0, .int v1] M none M' := by
  intro q
  induction q with
  | zero => intro v0 v1 M M' hF; cases hF
  | succ q ih => intro v0 v1 M M' hF; exact ke_Md_takePart (Nat.le_add_right 50 _) (fun _ _ _ _ => ih) hF
set_option maxRecDepth 100000 in
set_option maxHeartbeats 4000000 in
theorem s_Md_readLaw_2 {X : hm_X} {n : Nat} {S : hm_S} (hC : hm_C X RX12 cX12_readLaw 2 none 155 n S) {k7 : Nat → Int32 → hm_M → Option hm_M} (hk7 : ∀ (v0 : Nat) (v1 : Int32)  (M : hm_M) (M' : hm_M), k7 v0 v1 M = some M' → hm_U X 7 [(0, .ref v0), (1, .int v1)] [] M (hm_Q X none M')) {v0 : Nat} {v1 : Int32} {s0 : Int32} {s1 : Nat} {M : hm_M} {M' : hm_M} (hF : b_Md_readLaw_2 S k7 v0 v1 s0 s1 M = some M') : hm_U X 32 [(0, .ref v0), (1, .int v1)] [.int s0, .ref s1] M (hm_Q X none M') := by
  unfold b_Md_readLaw_2 at hF
  obtain ⟨g1, hF⟩ := hg_some hF
  refine jv_putI hC fl_X12_231 dX12_readLaw_32 rfl rfl rfl g1 ?_
  obtain ⟨M2, e3, hF⟩ := hl_some hF
  refine jv_mem e3 ?_
  refine jv_iinc hC 1 [(1, .int (v1 + (1 : Int32))), (0, .ref v0)] dX12_readLaw_35 rfl c32_1 (by decide) rfl ?_
  refine jv_goto hC 7 dX12_readLaw_38 (by decide) ?_
  refine jv_sub [1, 0] (ls' := [(0, .ref v0), (1, .int (v1 + (1 : Int32)))]) rfl ?_
  exact jv_pc 7 rfl (hk7 _ _ _ _ hF)
set_option maxRecDepth 100000 in
set_option maxHeartbeats 4000000 in
theorem t_Md_readLaw_1 {X : hm_X} {n : Nat} {S : hm_S} (hC : hm_C X RX12 cX12_readLaw 2 none 155 n S) {k7 : Nat → Int32 → hm_M → Option hm_M} (hk7 : ∀ (v0 : Nat) (v1 : Int32)  (M : hm_M) (M' : hm_M), k7 v0 v1 M = some M' → hm_U X 7 [(0, .ref v0), (1, .int v1)] [] M (hm_Q X none M')) {v0 : Nat} {v1 : Int32} {M : hm_M} {M' : hm_M} (hF : b_Md_readLaw_1 S k7 v0 v1 M = some M') : hm_U X 7 [(0, .ref v0), (1, .int v1)] [] M (hm_Q X none M') := by
  unfold b_Md_readLaw_1 at hF
  refine jv_iload_n hC 1 dX12_readLaw_7 rfl ?_
  refine jv_iconst hC dX12_readLaw_8 c32_4 ?_
  refine jv_icmp_ge hC 41 dX12_readLaw_9 (by decide) (fun h1 => ?_) (fun h1 => ?_)
  · have hF := hi_pos h1 hF
    refine jv_aload_n hC 0 dX12_readLaw_41 rfl ?_
    obtain ⟨g2, hF⟩ := hg_some hF
    refine jv_getI hC fl_X12_231 dX12_readLaw_42 rfl g2 ?_
    refine jv_if_ge hC 54 dX12_readLaw_45 (by decide) (fun h3 => ?_) (fun h3 => ?_)
    · have hF := hi_pos h3 hF
      refine jv_sipush hC dX12_readLaw_54 c16_145 ?_
      refine jv_aload_n hC 0 dX12_readLaw_57 rfl ?_
      refine jv_getI hC fl_X12_231 dX12_readLaw_58 rfl g2 ?_
      refine jv_iadd hC dX12_readLaw_61 ?_
      obtain ⟨x4, e5, hF⟩ := hl_some hF
      refine jv_topI e5 ?_
      refine jv_istore_n hC [(1, .int x4), (0, .ref v0)] dX12_readLaw_62 (by decide) rfl ?_
      refine jv_aload_n hC 1 dX12_readLaw_63 rfl ?_
      obtain ⟨g6, hF⟩ := hg_some hF
      refine jv_getR hC fl_X12_81 dX12_readLaw_64 rfl g2 g6 ?_
      refine jv_pc 67 rfl ?_
      refine jv_iload_n hC 0 dX12_readLaw_67 rfl ?_
      obtain ⟨g7, hF⟩ := hg_some hF
      obtain ⟨n8, sn8, in8⟩ := hm_ib_ok g7
      refine jv_iaload hC dX12_readLaw_68 sn8 in8 ?_
      refine jv_if_lt hC 78 dX12_readLaw_69 (by decide) (fun h9 => ?_) (fun h9 => ?_)
      · have hF := hi_pos h9 hF
        refine jv_aload_n hC 1 dX12_readLaw_78 rfl ?_
        refine jv_dup hC dX12_readLaw_79 rfl ?_
        refine jv_getI hC fl_X12_156 dX12_readLaw_80 rfl g2 ?_
        refine jv_iconst hC dX12_readLaw_83 c32_1 ?_
        refine jv_iadd hC dX12_readLaw_84 ?_
        refine jv_putI hC fl_X12_156 dX12_readLaw_85 rfl rfl rfl g2 ?_
        obtain ⟨M10, e11, hF⟩ := hl_some hF
        refine jv_mem e11 ?_
        refine jv_aload_n hC 1 dX12_readLaw_88 rfl ?_
        refine jv_pc 89 rfl ?_
        obtain ⟨g12, hF⟩ := hg_some hF
        refine jv_getR hC fl_X12_81 dX12_readLaw_89 rfl g2 g12 ?_
        refine jv_iload_n hC 0 dX12_readLaw_92 rfl ?_
        refine jv_aload_n hC 1 dX12_readLaw_93 rfl ?_
        refine jv_getI hC fl_X12_185 dX12_readLaw_94 rfl g2 ?_
        obtain ⟨g13, hF⟩ := hg_some hF
        obtain ⟨n14, sn14, in14⟩ := hm_ib_ok g13
        refine jv_iastore hC dX12_readLaw_97 sn14 in14 ?_
        obtain ⟨M15, e16, hF⟩ := hl_some hF
        refine jv_mem e16 ?_
        refine jv_aload_n hC 1 dX12_readLaw_98 rfl ?_
        refine jv_iconst hC dX12_readLaw_99 c32_0 ?_
        obtain ⟨M18, c17, hF⟩ := hv_some hF
        refine jv_callV hC (st := []) [.int (0 : Int32)] (k_Md_all (Nat.le_add_right 50 _) (fun _ _ _ _ => k_Md_takePart hD) c17) mm_Md_all mi_Md_all ml_X12_234 dX12_readLaw_100 g2 rfl (Nat.le_of_ble_eq_true rfl) rfl rfl (Nat.le_of_ble_eq_true rfl) ?_
        refine jv_nf 103 [] rfl rfl ?_
        refine jv_aload_n hC 1 dX12_readLaw_103 rfl ?_
        refine jv_iconst hC dX12_readLaw_104 c32_0 ?_
        refine jv_iconst hC dX12_readLaw_105 c32_0 ?_
        obtain ⟨M20, c19, hF⟩ := hv_some hF
        refine jv_callV hC (st := []) [.int (0 : Int32), .int (0 : Int32)] (k_Md_emit c19) mm_Md_emit mi_Md_emit ml_X12_237 dX12_readLaw_106 g2 rfl (Nat.le_of_ble_eq_true rfl) rfl rfl (Nat.le_of_ble_eq_true rfl) ?_
        refine jv_nf 109 [] rfl rfl ?_
        obtain rfl := hr_somev hF
        exact jv_vret hC dX12_readLaw_109
      · have hF := hi_neg h9 hF
        refine jv_aload_n hC 1 dX12_readLaw_72 rfl ?_
        refine jv_iconst hC dX12_readLaw_73 c32_3 ?_
        obtain ⟨M22, c21, hF⟩ := hv_some hF
        refine jv_callV hC (st := []) [.int (3 : Int32)] (k_Md_wrong c21) mm_Md_wrong mi_Md_wrong ml_X12_165 dX12_readLaw_74 g2 rfl (Nat.le_of_ble_eq_true rfl) rfl rfl (Nat.le_of_ble_eq_true rfl) ?_
        refine jv_nf 77 [] rfl rfl ?_
        obtain rfl := hr_somev hF
        exact jv_vret hC dX12_readLaw_77
    · have hF := hi_neg h3 hF
      refine jv_aload_n hC 0 dX12_readLaw_48 rfl ?_
      refine jv_iconst hC dX12_readLaw_49 c32_1 ?_
      obtain ⟨M24, c23, hF⟩ := hv_some hF
      refine jv_callV hC (st := []) [.int (1 : Int32)] (k_Md_wrong c23) mm_Md_wrong mi_Md_wrong ml_X12_165 dX12_readLaw_50 g2 rfl (Nat.le_of_ble_eq_true rfl) rfl rfl (Nat.le_of_ble_eq_true rfl) ?_
      refine jv_nf 53 [] rfl rfl ?_
      obtain rfl := hr_somev hF
      exact jv_vret hC dX12_readLaw_53
  · have hF := hi_neg h1 hF
    refine jv_aload_n hC 0 dX12_readLaw_12 rfl ?_
    refine jv_aload_n hC 0 dX12_readLaw_13 rfl ?_
    refine jv_bipush hC dX12_readLaw_14 c8_7 ?_
    refine jv_iload_n hC 1 dX12_readLaw_16 rfl ?_
    refine jv_iadd hC dX12_readLaw_17 ?_
    obtain ⟨g25, hF⟩ := hg_some hF
    obtain ⟨r28, M27, c26, hF⟩ := hb_some hF
    refine jv_callV hC (st := [.ref v0]) [.int ((7 : Int32) + v1)] (k_Md_isWord c26) mm_Md_isWord mi_Md_isWord ml_X12_169 dX12_readLaw_18 g25 rfl (Nat.le_of_ble_eq_true rfl) rfl rfl (Nat.le_of_ble_eq_true rfl) ?_
    refine jv_nf 21 [.int r28, .ref v0] rfl rfl ?_
    refine jv_if_eq hC 28 dX12_readLaw_21 (by decide) (fun h29 => ?_) (fun h29 => ?_)
    · have hF := hi_pos h29 hF
      refine jv_aload_n hC 0 dX12_readLaw_28 rfl ?_
      refine jv_getI hC fl_X12_231 dX12_readLaw_29 rfl g25 ?_
      exact jv_pc 32 rfl (s_Md_readLaw_2 hC hk7 hF)
    · have hF := hi_neg h29 hF
      refine jv_iload_n hC 1 dX12_readLaw_24 rfl ?_
      refine jv_goto hC 32 dX12_readLaw_25 (by decide) ?_
      exact jv_pc 32 rfl (s_Md_readLaw_2 hC hk7 hF)
theorem s_Md_readLaw_1 {X : hm_X} {n : Nat} {S : hm_S} (hC : hm_C X RX12 cX12_readLaw 2 none 155 n S) : ∀ (q : Nat) (v0 : Nat) (v1 : Int32) (M : hm_M) (M' : hm_M), f_Md_readLaw_1 S  q v0 v1 M = some M' → hm_U X 7 [(0, .ref v0), (1, .int v1)] [] M (hm_Q X none M') := by
  intro q
  induction q with
  | zero => intro v0 v1 M M' hF; cases hF
  | succ q ih => intro v0 v1 M M' hF; exact t_Md_readLaw_1 hC ih hF
set_option maxRecDepth 100000 in
set_option maxHeartbeats 4000000 in
theorem k_Md_readLaw {n : Nat} {S : hm_S} {v0 : Nat} {M : hm_M} {M' : hm_M} (hF : f_Md_readLaw S v0 M = some M') : hm_KM yX12_readLaw cX12_readLaw 2 none 155 n S [.ref v0] M none M' := by
  refine hm_enter mm_Md_readLaw (Nat.le_of_ble_eq_true rfl) (fun X hC => ?_)
  show hm_U X 0 [(0, .ref v0)] [] M _
  unfold f_Md_readLaw at hF
  refine jv_aload_n hC 0 dX12_readLaw_0 rfl ?_
  refine jv_iconst hC dX12_readLaw_1 c32_m1 ?_
  obtain ⟨g1, hF⟩ := hg_some hF
  refine jv_putI hC fl_X12_231 dX12_readLaw_2 rfl rfl rfl g1 ?_
  obtain ⟨M2, e3, hF⟩ := hl_some hF
  refine jv_mem e3 ?_
  refine jv_iconst hC dX12_readLaw_5 c32_0 ?_
  refine jv_istore_n hC [(1, .int (0 : Int32)), (0, .ref v0)] dX12_readLaw_6 (by decide) rfl ?_
  refine jv_sub [1, 0] (ls' := [(0, .ref v0), (1, .int (0 : Int32))]) rfl ?_
  exact jv_pc 7 rfl (s_Md_readLaw_1 hC hN _ _ _ _ hF)
set_option maxRecDepth 100000 in
set_option maxHeartbeats 4000000 in
theorem k_Md_readLine {n : Nat} {S : hm_S} {v0 : Nat} {M : hm_M} {M' : hm_M} (hF : f_Md_readLine S v0 M = some M') : hm_KM yX12_readLine cX12_readLine 1 none 156 n S [.ref v0] M none M' := by
  refine hm_enter mm_Md_readLine (Nat.le_of_ble_eq_true rfl) (fun X hC => ?_)
  show hm_U X 0 [(0, .ref v0)] [] M _
  unfold f_Md_readLine at hF
  refine jv_aload_n hC 0 dX12_readLine_0 rfl ?_
  refine jv_iconst hC dX12_readLine_1 c32_0 ?_
  obtain ⟨g1, hF⟩ := hg_some hF
  obtain ⟨r4, M3, c2, hF⟩ := hb_some hF
  refine jv_callV hC (st := []) [.int (0 : Int32)] (k_Md_isWord c2) mm_Md_isWord mi_Md_isWord ml_X12_169 dX12_readLine_2 g1 rfl (Nat.le_of_ble_eq_true rfl) rfl rfl (Nat.le_of_ble_eq_true rfl) ?_
  refine jv_nf 5 [.int r4] rfl rfl ?_
  refine jv_if_eq hC 15 dX12_readLine_5 (by decide) (fun h5 => ?_) (fun h5 => ?_)
  · have hF := hi_pos h5 hF
    refine jv_aload_n hC 0 dX12_readLine_15 rfl ?_
    refine jv_iconst hC dX12_readLine_16 c32_1 ?_
    obtain ⟨r8, M7, c6, hF⟩ := hb_some hF
    refine jv_callV hC (st := []) [.int (1 : Int32)] (k_Md_isWord c6) mm_Md_isWord mi_Md_isWord ml_X12_169 dX12_readLine_17 g1 rfl (Nat.le_of_ble_eq_true rfl) rfl rfl (Nat.le_of_ble_eq_true rfl) ?_
    refine jv_nf 20 [.int r8] rfl rfl ?_
    refine jv_if_eq hC 30 dX12_readLine_20 (by decide) (fun h9 => ?_) (fun h9 => ?_)
    · have hF := hi_pos h9 hF
      refine jv_aload_n hC 0 dX12_readLine_30 rfl ?_
      refine jv_iconst hC dX12_readLine_31 c32_4 ?_
      obtain ⟨r12, M11, c10, hF⟩ := hb_some hF
      refine jv_callV hC (st := []) [.int (4 : Int32)] (k_Md_isWord c10) mm_Md_isWord mi_Md_isWord ml_X12_169 dX12_readLine_32 g1 rfl (Nat.le_of_ble_eq_true rfl) rfl rfl (Nat.le_of_ble_eq_true rfl) ?_
      refine jv_nf 35 [.int r12] rfl rfl ?_
      refine jv_if_eq hC 45 dX12_readLine_35 (by decide) (fun h13 => ?_) (fun h13 => ?_)
      · have hF := hi_pos h13 hF
        refine jv_aload_n hC 0 dX12_readLine_45 rfl ?_
        refine jv_bipush hC dX12_readLine_46 c8_11 ?_
        obtain ⟨r16, M15, c14, hF⟩ := hb_some hF
        refine jv_callV hC (st := []) [.int (11 : Int32)] (k_Md_isWord c14) mm_Md_isWord mi_Md_isWord ml_X12_169 dX12_readLine_48 g1 rfl (Nat.le_of_ble_eq_true rfl) rfl rfl (Nat.le_of_ble_eq_true rfl) ?_
        refine jv_nf 51 [.int r16] rfl rfl ?_
        refine jv_if_eq hC 61 dX12_readLine_51 (by decide) (fun h17 => ?_) (fun h17 => ?_)
        · have hF := hi_pos h17 hF
          refine jv_aload_n hC 0 dX12_readLine_61 rfl ?_
          obtain ⟨M19, c18, hF⟩ := hv_some hF
          refine jv_callV hC (st := []) [] (k_Md_readLaw c18) mm_Md_readLaw mi_Md_readLaw ml_X12_216 dX12_readLine_62 g1 rfl (Nat.le_of_ble_eq_true rfl) rfl rfl (Nat.le_of_ble_eq_true rfl) ?_
          refine jv_nf 65 [] rfl rfl ?_
          obtain rfl := hr_somev hF
          exact jv_vret hC dX12_readLine_65
        · have hF := hi_neg h17 hF
          refine jv_aload_n hC 0 dX12_readLine_54 rfl ?_
          obtain ⟨M21, c20, hF⟩ := hv_some hF
          refine jv_callV hC (st := []) [] (k_Md_readCloud c20) mm_Md_readCloud mi_Md_readCloud ml_X12_213 dX12_readLine_55 g1 rfl (Nat.le_of_ble_eq_true rfl) rfl rfl (Nat.le_of_ble_eq_true rfl) ?_
          refine jv_nf 58 [] rfl rfl ?_
          refine jv_goto hC 65 dX12_readLine_58 (by decide) ?_
          obtain rfl := hr_somev hF
          exact jv_vret hC dX12_readLine_65
      · have hF := hi_neg h13 hF
        refine jv_aload_n hC 0 dX12_readLine_38 rfl ?_
        obtain ⟨M23, c22, hF⟩ := hv_some hF
        refine jv_callV hC (st := []) [] (k_Md_readPane c22) mm_Md_readPane mi_Md_readPane ml_X12_210 dX12_readLine_39 g1 rfl (Nat.le_of_ble_eq_true rfl) rfl rfl (Nat.le_of_ble_eq_true rfl) ?_
        refine jv_nf 42 [] rfl rfl ?_
        refine jv_goto hC 65 dX12_readLine_42 (by decide) ?_
        obtain rfl := hr_somev hF
        exact jv_vret hC dX12_readLine_65
    · have hF := hi_neg h9 hF
      refine jv_aload_n hC 0 dX12_readLine_23 rfl ?_
      obtain ⟨M25, c24, hF⟩ := hv_some hF
      refine jv_callV hC (st := []) [] (k_Md_readGuild c24) mm_Md_readGuild mi_Md_readGuild ml_X12_207 dX12_readLine_24 g1 rfl (Nat.le_of_ble_eq_true rfl) rfl rfl (Nat.le_of_ble_eq_true rfl) ?_
      refine jv_nf 27 [] rfl rfl ?_
      refine jv_goto hC 65 dX12_readLine_27 (by decide) ?_
      obtain rfl := hr_somev hF
      exact jv_vret hC dX12_readLine_65
  · have hF := hi_neg h5 hF
    refine jv_aload_n hC 0 dX12_readLine_8 rfl ?_
    obtain ⟨M27, c26, hF⟩ := hv_some hF
    refine jv_callV hC (st := []) [] (k_Md_readFloor c26) mm_Md_readFloor mi_Md_readFloor ml_X12_204 dX12_readLine_9 g1 rfl (Nat.le_of_ble_eq_true rfl) rfl rfl (Nat.le_of_ble_eq_true rfl) ?_
    refine jv_nf 12 [] rfl rfl ?_
    refine jv_goto hC 65 dX12_readLine_12 (by decide) ?_
    obtain rfl := hr_somev hF
    exact jv_vret hC dX12_readLine_65
set_option maxRecDepth 100000 in
set_option maxHeartbeats 4000000 in
theorem t_Md_chapel_8 {X : hm_X} {n : Nat} {S : hm_S} (hC : hm_C X RX12 cX12_chapel 2 (some .int) 157 n S) {k246 : Nat → Int32 → hm_M → Option (Int32 × hm_M)} (hk246 : ∀ (v0 : Nat) (v1 : Int32)  (M : hm_M) (r : Int32) (M' : hm_M), k246 v0 v1 M = some (r, M') → hm_U X 246 [(0, .ref v0), (1, .int v1)] [] M (hm_Q X (some (.int r)) M')) {v0 : Nat} {v1 : Int32} {M : hm_M} {r : Int32} {M' : hm_M} (hF : b_Md_chapel_8 S k246 v0 v1 M = some (r, M')) : hm_U X 246 [(0, .ref v0), (1, .int v1)] [] M (hm_Q X (some (.int r)) M') := by
  unfold b_Md_chapel_8 at hF
  refine jv_iload_n hC 1 dX12_chapel_246 rfl ?_
  refine jv_iconst hC dX12_chapel_247 c32_4 ?_
  refine jv_icmp_ge hC 264 dX12_chapel_248 (by decide) (fun h1 => ?_) (fun h1 => ?_)
  · have hF := hi_pos h1 hF
    refine jv_iconst hC dX12_chapel_264 c32_0 ?_
    obtain ⟨rfl, rfl⟩ := hr_some hF
    exact jv_iret hC dX12_chapel_265
  · have hF := hi_neg h1 hF
    refine jv_aload_n hC 0 dX12_chapel_251 rfl ?_
    obtain ⟨g2, hF⟩ := hg_some hF
    obtain ⟨g3, hF⟩ := hg_some hF
    refine jv_getR hC fl_X12_102 dX12_chapel_252 rfl g2 g3 ?_
    refine jv_iload_n hC 1 dX12_chapel_255 rfl ?_
    refine jv_iconst hC dX12_chapel_256 c32_0 ?_
    obtain ⟨g4, hF⟩ := hg_some hF
    obtain ⟨n5, sn5, in5⟩ := hm_ib_ok g4
    refine jv_zastore hC dX12_chapel_257 sn5 in5 ?_
    obtain ⟨M6, e7, hF⟩ := hl_some hF
    refine jv_mem e7 ?_
    refine jv_iinc hC 1 [(1, .int (v1 + (1 : Int32))), (0, .ref v0)] dX12_chapel_258 rfl c32_1 (by decide) rfl ?_
    refine jv_goto hC 246 dX12_chapel_261 (by decide) ?_
    refine jv_sub [1, 0] (ls' := [(0, .ref v0), (1, .int (v1 + (1 : Int32)))]) rfl ?_
    exact jv_pc 246 rfl (hk246 _ _ _ _ _ hF)
theorem s_Md_chapel_8 {X : hm_X} {n : Nat} {S : hm_S} (hC : hm_C X RX12 cX12_chapel 2 (some .int) 157 n S) : ∀ (q : Nat) (v0 : Nat) (v1 : Int32) (M : hm_M) (r : Int32) (M' : hm_M), f_Md_chapel_8 S  q v0 v1 M = some (r, M') → hm_U X 246 [(0, .ref v0), (1, .int v1)] [] M (hm_Q X (some (.int r)) M') := by
  intro q
  induction q with
  | zero => intro v0 v1 M r M' hF; cases hF
  | succ q ih => intro v0 v1 M r M' hF; exact t_Md_chapel_8 hC ih hF
set_option maxRecDepth 100000 in
set_option maxHeartbeats 4000000 in
theorem t_Md_chapel_7 {X : hm_X} {n : Nat} {S : hm_S} (hC : hm_C X RX12 cX12_chapel 2 (some .int) 157 n S) {k190 : Nat → Int32 → hm_M → Option (Int32 × hm_M)} (hk190 : ∀ (v0 : Nat) (v1 : Int32)  (M : hm_M) (r : Int32) (M' : hm_M), k190 v0 v1 M = some (r, M') → hm_U X 190 [(0, .ref v0), (1, .int v1)] [] M (hm_Q X (some (.int r)) M')) {v0 : Nat} {v1 : Int32} {M : hm_M} {r : Int32} {M' : hm_M} (hF : b_Md_chapel_7 S k190 v0 v1 M = some (r, M')) : hm_U X 190 [(0, .ref v0), (1, .int v1)] [] M (hm_Q X (some (.int r)) M') := by
  unfold b_Md_chapel_7 at hF
  refine jv_iload_n hC 1 dX12_chapel_190 rfl ?_
  refine jv_bipush hC dX12_chapel_191 c8_12 ?_
  refine jv_icmp_ge hC 223 dX12_chapel_193 (by decide) (fun h1 => ?_) (fun h1 => ?_)
  · have hF := hi_pos h1 hF
    refine jv_aload_n hC 0 dX12_chapel_223 rfl ?_
    obtain ⟨g2, hF⟩ := hg_some hF
    obtain ⟨g3, hF⟩ := hg_some hF
    refine jv_getR hC fl_X12_99 dX12_chapel_224 rfl g2 g3 ?_
    refine jv_bipush hC dX12_chapel_227 c8_12 ?_
    refine jv_iconst hC dX12_chapel_229 c32_0 ?_
    obtain ⟨g4, hF⟩ := hg_some hF
    obtain ⟨n5, sn5, in5⟩ := hm_ib_ok g4
    refine jv_iastore hC dX12_chapel_230 sn5 in5 ?_
    obtain ⟨M6, e7, hF⟩ := hl_some hF
    refine jv_mem e7 ?_
    refine jv_aload_n hC 0 dX12_chapel_231 rfl ?_
    obtain ⟨g8, hF⟩ := hg_some hF
    refine jv_getR hC fl_X12_99 dX12_chapel_232 rfl g2 g8 ?_
    refine jv_pc 235 rfl ?_
    refine jv_bipush hC dX12_chapel_235 c8_13 ?_
    refine jv_iconst hC dX12_chapel_237 c32_0 ?_
    obtain ⟨g9, hF⟩ := hg_some hF
    obtain ⟨n10, sn10, in10⟩ := hm_ib_ok g9
    refine jv_iastore hC dX12_chapel_238 sn10 in10 ?_
    obtain ⟨M11, e12, hF⟩ := hl_some hF
    refine jv_mem e12 ?_
    refine jv_aload_n hC 0 dX12_chapel_239 rfl ?_
    refine jv_iconst hC dX12_chapel_240 c32_0 ?_
    refine jv_putI hC fl_X12_201 dX12_chapel_241 rfl rfl rfl g2 ?_
    obtain ⟨M13, e14, hF⟩ := hl_some hF
    refine jv_mem e14 ?_
    refine jv_iconst hC dX12_chapel_244 c32_0 ?_
    refine jv_istore_n hC [(1, .int (0 : Int32)), (0, .ref v0)] dX12_chapel_245 (by decide) rfl ?_
    refine jv_sub [1, 0] (ls' := [(0, .ref v0), (1, .int (0 : Int32))]) rfl ?_
    exact jv_pc 246 rfl (s_Md_chapel_8 hC hN _ _ _ _ _ hF)
  · have hF := hi_neg h1 hF
    refine jv_aload_n hC 0 dX12_chapel_196 rfl ?_
    obtain ⟨g15, hF⟩ := hg_some hF
    obtain ⟨g16, hF⟩ := hg_some hF
    refine jv_getR hC fl_X12_99 dX12_chapel_197 rfl g15 g16 ?_
    refine jv_iconst hC dX12_chapel_200 c32_0 ?_
    refine jv_iload_n hC 1 dX12_chapel_201 rfl ?_
    refine jv_iadd hC dX12_chapel_202 ?_
    refine jv_aload_n hC 0 dX12_chapel_203 rfl ?_
    obtain ⟨g17, hF⟩ := hg_some hF
    refine jv_getR hC fl_X12_81 dX12_chapel_204 rfl g15 g17 ?_
    refine jv_pc 207 rfl ?_
    refine jv_bipush hC dX12_chapel_207 c8_17 ?_
    refine jv_iconst hC dX12_chapel_209 c32_4 ?_
    refine jv_iload_n hC 1 dX12_chapel_210 rfl ?_
    refine jv_imul hC dX12_chapel_211 ?_
    refine jv_iadd hC dX12_chapel_212 ?_
    refine jv_iconst hC dX12_chapel_213 c32_2 ?_
    refine jv_iadd hC dX12_chapel_214 ?_
    obtain ⟨g18, hF⟩ := hg_some hF
    obtain ⟨n19, sn19, in19⟩ := hm_ib_ok g18
    refine jv_iaload hC dX12_chapel_215 sn19 in19 ?_
    refine jv_pc 216 rfl ?_
    obtain ⟨g20, hF⟩ := hg_some hF
    obtain ⟨n21, sn21, in21⟩ := hm_ib_ok g20
    refine jv_iastore hC dX12_chapel_216 sn21 in21 ?_
    obtain ⟨M22, e23, hF⟩ := hl_some hF
    refine jv_mem e23 ?_
    refine jv_iinc hC 1 [(1, .int (v1 + (1 : Int32))), (0, .ref v0)] dX12_chapel_217 rfl c32_1 (by decide) rfl ?_
    refine jv_goto hC 190 dX12_chapel_220 (by decide) ?_
    refine jv_sub [1, 0] (ls' := [(0, .ref v0), (1, .int (v1 + (1 : Int32)))]) rfl ?_
    exact jv_pc 190 rfl (hk190 _ _ _ _ _ hF)
theorem s_Md_chapel_7 {X : hm_X} {n : Nat} {S : hm_S} (hC : hm_C X RX12 cX12_chapel 2 (some .int) 157 n S) : ∀ (q : Nat) (v0 : Nat) (v1 : Int32) (M : hm_M) (r : Int32) (M' : hm_M), f_Md_chapel_7 S  q v0 v1 M = some (r, M') → hm_U X 190 [(0, .ref v0), (1, .int v1)] [] M (hm_Q X (some (.int r)) M') := by
  intro q
  induction q with
  | zero => intro v0 v1 M r M' hF; cases hF
  | succ q ih => intro v0 v1 M r M' hF; exact t_Md_chapel_7 hC ih hF
set_option maxRecDepth 100000 in
set_option maxHeartbeats 4000000 in
theorem t_Md_chapel_6 {X : hm_X} {n : Nat} {S : hm_S} (hC : hm_C X RX12 cX12_chapel 2 (some .int) 157 n S) {k142 : Nat → Int32 → hm_M → Option (Int32 × hm_M)} (hk142 : ∀ (v0 : Nat) (v1 : Int32)  (M : hm_M) (r : Int32) (M' : hm_M), k142 v0 v1 M = some (r, M') → hm_U X 142 [(0, .ref v0), (1, .int v1)] [] M (hm_Q X (some (.int r)) M')) {v0 : Nat} {v1 : Int32} {M : hm_M} {r : Int32} {M' : hm_M} (hF : b_Md_chapel_6 S k142 v0 v1 M = some (r, M')) : hm_U X 142 [(0, .ref v0), (1, .int v1)] [] M (hm_Q X (some (.int r)) M') := by
  unfold b_Md_chapel_6 at hF
  refine jv_iload_n hC 1 dX12_chapel_142 rfl ?_
  refine jv_aload_n hC 0 dX12_chapel_143 rfl ?_
  obtain ⟨g1, hF⟩ := hg_some hF
  refine jv_getI hC fl_X12_185 dX12_chapel_144 rfl g1 ?_
  refine jv_icmp_ge hC 188 dX12_chapel_147 (by decide) (fun h2 => ?_) (fun h2 => ?_)
  · have hF := hi_pos h2 hF
    refine jv_iconst hC dX12_chapel_188 c32_0 ?_
    refine jv_istore_n hC [(1, .int (0 : Int32)), (0, .ref v0)] dX12_chapel_189 (by decide) rfl ?_
    refine jv_sub [1, 0] (ls' := [(0, .ref v0), (1, .int (0 : Int32))]) rfl ?_
    exact jv_pc 190 rfl (s_Md_chapel_7 hC hN _ _ _ _ _ hF)
  · have hF := hi_neg h2 hF
    refine jv_aload_n hC 0 dX12_chapel_150 rfl ?_
    obtain ⟨g3, hF⟩ := hg_some hF
    refine jv_getR hC fl_X12_84 dX12_chapel_151 rfl g1 g3 ?_
    refine jv_iload_n hC 1 dX12_chapel_154 rfl ?_
    refine jv_aload_n hC 0 dX12_chapel_155 rfl ?_
    refine jv_getR hC fl_X12_84 dX12_chapel_156 rfl g1 g3 ?_
    refine jv_sipush hC dX12_chapel_159 c16_1100 ?_
    refine jv_iload_n hC 1 dX12_chapel_162 rfl ?_
    refine jv_pc 163 rfl ?_
    refine jv_iadd hC dX12_chapel_163 ?_
    obtain ⟨g4, hF⟩ := hg_some hF
    obtain ⟨n5, sn5, in5⟩ := hm_ib_ok g4
    refine jv_iaload hC dX12_chapel_164 sn5 in5 ?_
    obtain ⟨g6, hF⟩ := hg_some hF
    obtain ⟨n7, sn7, in7⟩ := hm_ib_ok g6
    refine jv_iastore hC dX12_chapel_165 sn7 in7 ?_
    obtain ⟨M8, e9, hF⟩ := hl_some hF
    refine jv_mem e9 ?_
    refine jv_aload_n hC 0 dX12_chapel_166 rfl ?_
    obtain ⟨g10, hF⟩ := hg_some hF
    refine jv_getR hC fl_X12_87 dX12_chapel_167 rfl g1 g10 ?_
    refine jv_iload_n hC 1 dX12_chapel_170 rfl ?_
    refine jv_aload_n hC 0 dX12_chapel_171 rfl ?_
    refine jv_getR hC fl_X12_87 dX12_chapel_172 rfl g1 g10 ?_
    refine jv_pc 175 rfl ?_
    refine jv_sipush hC dX12_chapel_175 c16_1100 ?_
    refine jv_iload_n hC 1 dX12_chapel_178 rfl ?_
    refine jv_iadd hC dX12_chapel_179 ?_
    obtain ⟨g11, hF⟩ := hg_some hF
    obtain ⟨n12, sn12, in12⟩ := hm_ib_ok g11
    refine jv_iaload hC dX12_chapel_180 sn12 in12 ?_
    obtain ⟨g13, hF⟩ := hg_some hF
    obtain ⟨n14, sn14, in14⟩ := hm_ib_ok g13
    refine jv_iastore hC dX12_chapel_181 sn14 in14 ?_
    obtain ⟨M15, e16, hF⟩ := hl_some hF
    refine jv_mem e16 ?_
    refine jv_iinc hC 1 [(1, .int (v1 + (1 : Int32))), (0, .ref v0)] dX12_chapel_182 rfl c32_1 (by decide) rfl ?_
    refine jv_goto hC 142 dX12_chapel_185 (by decide) ?_
    refine jv_sub [1, 0] (ls' := [(0, .ref v0), (1, .int (v1 + (1 : Int32)))]) rfl ?_
    exact jv_pc 142 rfl (hk142 _ _ _ _ _ hF)
theorem s_Md_chapel_6 {X : hm_X} {n : Nat} {S : hm_S} (hC : hm_C X RX12 cX12_chapel 2 (some .int) 157 n S) : ∀ (q : Nat) (v0 : Nat) (v1 : Int32) (M : hm_M) (r : Int32) (M' : hm_M), f_Md_chapel_6 S  q v0 v1 M = some (r, M') → hm_U X 142 [(0, .ref v0), (1, .int v1)] [] M (hm_Q X (some (.int r)) M') := by
  intro q
  induction q with
  | zero => intro v0 v1 M r M' hF; cases hF
  | succ q ih => intro v0 v1 M r M' hF; exact t_Md_chapel_6 hC ih hF
set_option maxRecDepth 100000 in
set_option maxHeartbeats 4000000 in
theorem t_Md_chapel_5 {X : hm_X} {n : Nat} {S : hm_S} (hC : hm_C X RX12 cX12_chapel 2 (some .int) 157 n S) {k113 : Nat → Int32 → hm_M → Option (Int32 × hm_M)} (hk113 : ∀ (v0 : Nat) (v1 : Int32)  (M : hm_M) (r : Int32) (M' : hm_M), k113 v0 v1 M = some (r, M') → hm_U X 113 [(0, .ref v0), (1, .int v1)] [] M (hm_Q X (some (.int r)) M')) {v0 : Nat} {v1 : Int32} {M : hm_M} {r : Int32} {M' : hm_M} (hF : b_Md_chapel_5 S k113 v0 v1 M = some (r, M')) : hm_U X 113 [(0, .ref v0), (1, .int v1)] [] M (hm_Q X (some (.int r)) M') := by
  unfold b_Md_chapel_5 at hF
  refine jv_iload_n hC 1 dX12_chapel_113 rfl ?_
  refine jv_bipush hC dX12_chapel_114 c8_80 ?_
  refine jv_icmp_ge hC 140 dX12_chapel_116 (by decide) (fun h1 => ?_) (fun h1 => ?_)
  · have hF := hi_pos h1 hF
    refine jv_iconst hC dX12_chapel_140 c32_0 ?_
    refine jv_istore_n hC [(1, .int (0 : Int32)), (0, .ref v0)] dX12_chapel_141 (by decide) rfl ?_
    refine jv_sub [1, 0] (ls' := [(0, .ref v0), (1, .int (0 : Int32))]) rfl ?_
    exact jv_pc 142 rfl (s_Md_chapel_6 hC hN _ _ _ _ _ hF)
  · have hF := hi_neg h1 hF
    refine jv_aload_n hC 0 dX12_chapel_119 rfl ?_
    obtain ⟨g2, hF⟩ := hg_some hF
    obtain ⟨g3, hF⟩ := hg_some hF
    refine jv_getR hC fl_X12_81 dX12_chapel_120 rfl g2 g3 ?_
    refine jv_iload_n hC 1 dX12_chapel_123 rfl ?_
    refine jv_aload_n hC 0 dX12_chapel_124 rfl ?_
    refine jv_getR hC fl_X12_81 dX12_chapel_125 rfl g2 g3 ?_
    refine jv_bipush hC dX12_chapel_128 c8_80 ?_
    refine jv_iload_n hC 1 dX12_chapel_130 rfl ?_
    refine jv_pc 131 rfl ?_
    refine jv_iadd hC dX12_chapel_131 ?_
    obtain ⟨g4, hF⟩ := hg_some hF
    obtain ⟨n5, sn5, in5⟩ := hm_ib_ok g4
    refine jv_iaload hC dX12_chapel_132 sn5 in5 ?_
    obtain ⟨g6, hF⟩ := hg_some hF
    obtain ⟨n7, sn7, in7⟩ := hm_ib_ok g6
    refine jv_iastore hC dX12_chapel_133 sn7 in7 ?_
    obtain ⟨M8, e9, hF⟩ := hl_some hF
    refine jv_mem e9 ?_
    refine jv_iinc hC 1 [(1, .int (v1 + (1 : Int32))), (0, .ref v0)] dX12_chapel_134 rfl c32_1 (by decide) rfl ?_
    refine jv_goto hC 113 dX12_chapel_137 (by decide) ?_
    refine jv_sub [1, 0] (ls' := [(0, .ref v0), (1, .int (v1 + (1 : Int32)))]) rfl ?_
    exact jv_pc 113 rfl (hk113 _ _ _ _ _ hF)
theorem s_Md_chapel_5 {X : hm_X} {n : Nat} {S : hm_S} (hC : hm_C X RX12 cX12_chapel 2 (some .int) 157 n S) : ∀ (q : Nat) (v0 : Nat) (v1 : Int32) (M : hm_M) (r : Int32) (M' : hm_M), f_Md_chapel_5 S  q v0 v1 M = some (r, M') → hm_U X 113 [(0, .ref v0), (1, .int v1)] [] M (hm_Q X (some (.int r)) M') := by
  intro q
  induction q with
  | zero => intro v0 v1 M r M' hF; cases hF
  | succ q ih => intro v0 v1 M r M' hF; exact t_Md_chapel_5 hC ih hF
set_option maxRecDepth 100000 in
set_option maxHeartbeats 4000000 in
theorem s_Md_chapel_4 {X : hm_X} {n : Nat} {S : hm_S} (hC : hm_C X RX12 cX12_chapel 2 (some .int) 157 n S) {v0 : Nat} {M : hm_M} {r : Int32} {M' : hm_M} (hF : b_Md_chapel_4 S v0 M = some (r, M')) : hm_U X 99 [(0, .ref v0)] [] M (hm_Q X (some (.int r)) M') := by
  unfold b_Md_chapel_4 at hF
  refine jv_aload_n hC 0 dX12_chapel_99 rfl ?_
  obtain ⟨g1, hF⟩ := hg_some hF
  refine jv_getI hC fl_X12_159 dX12_chapel_100 rfl g1 ?_
  refine jv_if_le hC 111 dX12_chapel_103 (by decide) (fun h2 => ?_) (fun h2 => ?_)
  · have hF := hi_pos h2 hF
    refine jv_iconst hC dX12_chapel_111 c32_0 ?_
    refine jv_istore_n hC [(1, .int (0 : Int32)), (0, .ref v0)] dX12_chapel_112 (by decide) rfl ?_
    refine jv_sub [1, 0] (ls' := [(0, .ref v0), (1, .int (0 : Int32))]) rfl ?_
    exact jv_pc 113 rfl (s_Md_chapel_5 hC hN _ _ _ _ _ hF)
  · have hF := hi_neg h2 hF
    refine jv_aload_n hC 0 dX12_chapel_106 rfl ?_
    refine jv_getI hC fl_X12_159 dX12_chapel_107 rfl g1 ?_
    obtain ⟨rfl, rfl⟩ := hr_some hF
    exact jv_iret hC dX12_chapel_110
set_option maxRecDepth 100000 in
set_option maxHeartbeats 4000000 in
theorem t_Md_chapel_3 {X : hm_X} {n : Nat} {S : hm_S} (hC : hm_C X RX12 cX12_chapel 2 (some .int) 157 n S) {k67 : Nat → hm_M → Option (Int32 × hm_M)} (hk67 : ∀ (v0 : Nat)  (M : hm_M) (r : Int32) (M' : hm_M), k67 v0 M = some (r, M') → hm_U X 67 [(0, .ref v0)] [] M (hm_Q X (some (.int r)) M')) {v0 : Nat} {M : hm_M} {r : Int32} {M' : hm_M} (hF : b_Md_chapel_3 S k67 v0 M = some (r, M')) : hm_U X 67 [(0, .ref v0)] [] M (hm_Q X (some (.int r)) M') := by
  unfold b_Md_chapel_3 at hF
  refine jv_aload_n hC 0 dX12_chapel_67 rfl ?_
  obtain ⟨g1, hF⟩ := hg_some hF
  refine jv_getI hC fl_X12_159 dX12_chapel_68 rfl g1 ?_
  refine jv_if_ne hC 99 dX12_chapel_71 (by decide) (fun h2 => ?_) (fun h2 => ?_)
  · have hF := hi_neg h2 hF
    exact jv_pc 99 rfl (s_Md_chapel_4 hC hF)
  · have hF := hi_pos h2 hF
    refine jv_aload_n hC 0 dX12_chapel_74 rfl ?_
    obtain ⟨g3, hF⟩ := hg_some hF
    refine jv_getR hC fl_X12_24 dX12_chapel_75 rfl g1 g3 ?_
    refine jv_aload_n hC 0 dX12_chapel_78 rfl ?_
    refine jv_getI hC fl_X12_156 dX12_chapel_79 rfl g1 ?_
    obtain ⟨g4, hF⟩ := hg_some hF
    obtain ⟨n5, sn5, in5⟩ := hm_ib_ok g4
    refine jv_iaload hC dX12_chapel_82 sn5 in5 ?_
    refine jv_if_eq hC 99 dX12_chapel_83 (by decide) (fun h6 => ?_) (fun h6 => ?_)
    · have hF := hi_pos h6 hF
      exact jv_pc 99 rfl (s_Md_chapel_4 hC hF)
    · have hF := hi_neg h6 hF
      refine jv_aload_n hC 0 dX12_chapel_86 rfl ?_
      obtain ⟨M8, c7, hF⟩ := hv_some hF
      refine jv_callV hC (st := []) [] (k_Md_readLine c7) mm_Md_readLine mi_Md_readLine ml_X12_195 dX12_chapel_87 g1 rfl (Nat.le_of_ble_eq_true rfl) rfl rfl (Nat.le_of_ble_eq_true rfl) ?_
      refine jv_nf 90 [] rfl rfl ?_
      refine jv_aload_n hC 0 dX12_chapel_90 rfl ?_
      refine jv_bipush hC dX12_chapel_91 c8_59 ?_
      obtain ⟨M10, c9, hF⟩ := hv_some hF
      refine jv_callV hC (st := []) [.int (59 : Int32)] (k_Md_takeSign c9) mm_Md_takeSign mi_Md_takeSign ml_X12_198 dX12_chapel_93 g1 rfl (Nat.le_of_ble_eq_true rfl) rfl rfl (Nat.le_of_ble_eq_true rfl) ?_
      refine jv_nf 96 [] rfl rfl ?_
      refine jv_goto hC 67 dX12_chapel_96 (by decide) ?_
      exact jv_pc 67 rfl (hk67 _ _ _ _ hF)
theorem s_Md_chapel_3 {X : hm_X} {n : Nat} {S : hm_S} (hC : hm_C X RX12 cX12_chapel 2 (some .int) 157 n S) : ∀ (q : Nat) (v0 : Nat) (M : hm_M) (r : Int32) (M' : hm_M), f_Md_chapel_3 S  q v0 M = some (r, M') → hm_U X 67 [(0, .ref v0)] [] M (hm_Q X (some (.int r)) M') := by
  intro q
  induction q with
  | zero => intro v0 M r M' hF; cases hF
  | succ q ih => intro v0 M r M' hF; exact t_Md_chapel_3 hC ih hF
set_option maxRecDepth 100000 in
set_option maxHeartbeats 4000000 in
theorem s_Md_chapel_2 {X : hm_X} {n : Nat} {S : hm_S} (hC : hm_C X RX12 cX12_chapel 2 (some .int) 157 n S) {k26 : Nat → Int32 → hm_M → Option (Int32 × hm_M)} (hk26 : ∀ (v0 : Nat) (v1 : Int32)  (M : hm_M) (r : Int32) (M' : hm_M), k26 v0 v1 M = some (r, M') → hm_U X 26 [(0, .ref v0), (1, .int v1)] [] M (hm_Q X (some (.int r)) M')) {v0 : Nat} {v1 : Int32} {s0 : Int32} {s1 : Int32} {s2 : Nat} {M : hm_M} {r : Int32} {M' : hm_M} (hF : b_Md_chapel_2 S k26 v0 v1 s0 s1 s2 M = some (r, M')) : hm_U X 60 [(0, .ref v0), (1, .int v1)] [.int s0, .int s1, .ref s2] M (hm_Q X (some (.int r)) M') := by
  unfold b_Md_chapel_2 at hF
  obtain ⟨g1, hF⟩ := hg_some hF
  obtain ⟨n2, sn2, in2⟩ := hm_ib_ok g1
  refine jv_iastore hC dX12_chapel_60 sn2 in2 ?_
  obtain ⟨M3, e4, hF⟩ := hl_some hF
  refine jv_mem e4 ?_
  refine jv_iinc hC 1 [(1, .int (v1 + (1 : Int32))), (0, .ref v0)] dX12_chapel_61 rfl c32_1 (by decide) rfl ?_
  refine jv_goto hC 26 dX12_chapel_64 (by decide) ?_
  refine jv_sub [1, 0] (ls' := [(0, .ref v0), (1, .int (v1 + (1 : Int32)))]) rfl ?_
  exact jv_pc 26 rfl (hk26 _ _ _ _ _ hF)
set_option maxRecDepth 100000 in
set_option maxHeartbeats 4000000 in
theorem t_Md_chapel_1 {X : hm_X} {n : Nat} {S : hm_S} (hC : hm_C X RX12 cX12_chapel 2 (some .int) 157 n S) {k26 : Nat → Int32 → hm_M → Option (Int32 × hm_M)} (hk26 : ∀ (v0 : Nat) (v1 : Int32)  (M : hm_M) (r : Int32) (M' : hm_M), k26 v0 v1 M = some (r, M') → hm_U X 26 [(0, .ref v0), (1, .int v1)] [] M (hm_Q X (some (.int r)) M')) {v0 : Nat} {v1 : Int32} {M : hm_M} {r : Int32} {M' : hm_M} (hF : b_Md_chapel_1 S k26 v0 v1 M = some (r, M')) : hm_U X 26 [(0, .ref v0), (1, .int v1)] [] M (hm_Q X (some (.int r)) M') := by
  unfold b_Md_chapel_1 at hF
  refine jv_iload_n hC 1 dX12_chapel_26 rfl ?_
  refine jv_bipush hC dX12_chapel_27 c8_80 ?_
  refine jv_icmp_ge hC 67 dX12_chapel_29 (by decide) (fun h1 => ?_) (fun h1 => ?_)
  · have hF := hi_pos h1 hF
    refine jv_sub [0] (ls' := [(0, .ref v0)]) rfl ?_
    exact jv_pc 67 rfl (s_Md_chapel_3 hC hN _ _ _ _ hF)
  · have hF := hi_neg h1 hF
    refine jv_aload_n hC 0 dX12_chapel_32 rfl ?_
    obtain ⟨g2, hF⟩ := hg_some hF
    obtain ⟨g3, hF⟩ := hg_some hF
    refine jv_getR hC fl_X12_81 dX12_chapel_33 rfl g2 g3 ?_
    refine jv_bipush hC dX12_chapel_36 c8_80 ?_
    refine jv_iload_n hC 1 dX12_chapel_38 rfl ?_
    refine jv_iadd hC dX12_chapel_39 ?_
    refine jv_iload_n hC 1 dX12_chapel_40 rfl ?_
    refine jv_iconst hC dX12_chapel_41 c32_2 ?_
    refine jv_pc 42 rfl ?_
    refine jv_icmp_ge hC 49 dX12_chapel_42 (by decide) (fun h4 => ?_) (fun h4 => ?_)
    · have hF := hi_pos h4 hF
      refine jv_iload_n hC 1 dX12_chapel_49 rfl ?_
      refine jv_bipush hC dX12_chapel_50 c8_65 ?_
      refine jv_icmp_lt hC 59 dX12_chapel_52 (by decide) (fun h5 => ?_) (fun h5 => ?_)
      · have hF := hi_pos h5 hF
        refine jv_iconst hC dX12_chapel_59 c32_0 ?_
        exact jv_pc 60 rfl (s_Md_chapel_2 hC hk26 hF)
      · have hF := hi_neg h5 hF
        refine jv_iconst hC dX12_chapel_55 c32_m1 ?_
        refine jv_goto hC 60 dX12_chapel_56 (by decide) ?_
        exact jv_pc 60 rfl (s_Md_chapel_2 hC hk26 hF)
    · have hF := hi_neg h4 hF
      refine jv_iconst hC dX12_chapel_45 c32_4 ?_
      refine jv_goto hC 60 dX12_chapel_46 (by decide) ?_
      exact jv_pc 60 rfl (s_Md_chapel_2 hC hk26 hF)
theorem s_Md_chapel_1 {X : hm_X} {n : Nat} {S : hm_S} (hC : hm_C X RX12 cX12_chapel 2 (some .int) 157 n S) : ∀ (q : Nat) (v0 : Nat) (v1 : Int32) (M : hm_M) (r : Int32) (M' : hm_M), f_Md_chapel_1 S  q v0 v1 M = some (r, M') → hm_U X 26 [(0, .ref v0), (1, .int v1)] [] M (hm_Q X (some (.int r)) M') := by
  intro q
  induction q with
  | zero => intro v0 v1 M r M' hF; cases hF
  | succ q ih => intro v0 v1 M r M' hF; exact t_Md_chapel_1 hC ih hF
set_option maxRecDepth 100000 in
set_option maxHeartbeats 4000000 in
theorem k_Md_chapel {n : Nat} {S : hm_S} {v0 : Nat} {M : hm_M} {r : Int32} {M' : hm_M} (hF : f_Md_chapel S v0 M = some (r, M')) : hm_KM yX12_chapel cX12_chapel 2 (some .int) 157 n S [.ref v0] M (some (.int r)) M' := by
  refine hm_enter mm_Md_chapel (Nat.le_of_ble_eq_true rfl) (fun X hC => ?_)
  show hm_U X 0 [(0, .ref v0)] [] M _
  unfold f_Md_chapel at hF
  refine jv_aload_n hC 0 dX12_chapel_0 rfl ?_
  refine jv_iconst hC dX12_chapel_1 c32_0 ?_
  obtain ⟨g1, hF⟩ := hg_some hF
  refine jv_putI hC fl_X12_1 dX12_chapel_2 rfl rfl rfl g1 ?_
  obtain ⟨M2, e3, hF⟩ := hl_some hF
  refine jv_mem e3 ?_
  refine jv_aload_n hC 0 dX12_chapel_5 rfl ?_
  obtain ⟨M5, c4, hF⟩ := hv_some hF
  refine jv_callV hC (st := []) [] (k_Md_cutAll c4) mm_Md_cutAll mi_Md_cutAll ml_X12_182 dX12_chapel_6 g1 rfl (Nat.le_of_ble_eq_true rfl) rfl rfl (Nat.le_of_ble_eq_true rfl) ?_
  refine jv_nf 9 [] rfl rfl ?_
  refine jv_aload_n hC 0 dX12_chapel_9 rfl ?_
  refine jv_iconst hC dX12_chapel_10 c32_0 ?_
  refine jv_putI hC fl_X12_185 dX12_chapel_11 rfl rfl rfl g1 ?_
  obtain ⟨M6, e7, hF⟩ := hl_some hF
  refine jv_mem e7 ?_
  refine jv_aload_n hC 0 dX12_chapel_14 rfl ?_
  refine jv_iconst hC dX12_chapel_15 c32_0 ?_
  refine jv_putI hC fl_X12_188 dX12_chapel_16 rfl (by decide) (by decide) g1 ?_
  obtain ⟨M8, e9, hF⟩ := hl_some hF
  refine jv_mem e9 ?_
  refine jv_aload_n hC 0 dX12_chapel_19 rfl ?_
  refine jv_pc 20 rfl ?_
  refine jv_iconst hC dX12_chapel_20 c32_0 ?_
  refine jv_putI hC fl_X12_192 dX12_chapel_21 rfl (by decide) (by decide) g1 ?_
  obtain ⟨M10, e11, hF⟩ := hl_some hF
  refine jv_mem e11 ?_
  refine jv_iconst hC dX12_chapel_24 c32_0 ?_
  refine jv_istore_n hC [(1, .int (0 : Int32)), (0, .ref v0)] dX12_chapel_25 (by decide) rfl ?_
  refine jv_sub [1, 0] (ls' := [(0, .ref v0), (1, .int (0 : Int32))]) rfl ?_
  exact jv_pc 26 rfl (s_Md_chapel_1 hC hN _ _ _ _ _ hF)
set_option maxRecDepth 100000 in
set_option maxHeartbeats 4000000 in
theorem k_Md_clear {n : Nat} {S : hm_S} {v0 : Nat} {M : hm_M} {r : Int32} {M' : hm_M} (hF : f_Md_clear S v0 M = some (r, M')) : hm_KM yX12_clear cX12_clear 1 (some .boolean) 1 n S [.ref v0] M (some (.int r)) M' := by
  refine hm_enter mm_Md_clear (Nat.le_of_ble_eq_true rfl) (fun X hC => ?_)
  show hm_U X 0 [(0, .ref v0)] [] M _
  unfold f_Md_clear at hF
  refine jv_aload_n hC 0 dX12_clear_0 rfl ?_
  refine jv_iconst hC dX12_clear_1 c32_0 ?_
  obtain ⟨g1, hF⟩ := hg_some hF
  refine jv_putI hC fl_X12_1 dX12_clear_2 rfl rfl rfl g1 ?_
  obtain ⟨M2, e3, hF⟩ := hl_some hF
  refine jv_mem e3 ?_
  refine jv_aload_n hC 0 dX12_clear_5 rfl ?_
  obtain ⟨g4, hF⟩ := hg_some hF
  refine jv_getR hC fl_X12_99 dX12_clear_6 rfl g1 g4 ?_
  refine jv_bipush hC dX12_clear_9 c8_13 ?_
  refine jv_iconst hC dX12_clear_11 c32_0 ?_
  refine jv_pc 12 rfl ?_
  obtain ⟨g5, hF⟩ := hg_some hF
  obtain ⟨n6, sn6, in6⟩ := hm_ib_ok g5
  refine jv_iastore hC dX12_clear_12 sn6 in6 ?_
  obtain ⟨M7, e8, hF⟩ := hl_some hF
  refine jv_mem e8 ?_
  refine jv_iconst hC dX12_clear_13 c32_1 ?_
  obtain ⟨rfl, rfl⟩ := hr_some hF
  exact jv_zret hC (by decide) dX12_clear_14
set_option maxRecDepth 100000 in
set_option maxHeartbeats 4000000 in
theorem k_Md_guilds {n : Nat} {S : hm_S} {v0 : Nat} {M : hm_M} {r : Int32} {M' : hm_M} (hF : f_Md_guilds S v0 M = some (r, M')) : hm_KM yX12_guilds cX12_guilds 1 (some .int) 1 n S [.ref v0] M (some (.int r)) M' := by
  refine hm_enter mm_Md_guilds (Nat.le_of_ble_eq_true rfl) (fun X hC => ?_)
  show hm_U X 0 [(0, .ref v0)] [] M _
  unfold f_Md_guilds at hF
  refine jv_aload_n hC 0 dX12_guilds_0 rfl ?_
  obtain ⟨g1, hF⟩ := hg_some hF
  obtain ⟨g2, hF⟩ := hg_some hF
  refine jv_getR hC fl_X12_81 dX12_guilds_1 rfl g1 g2 ?_
  refine jv_iconst hC dX12_guilds_4 c32_3 ?_
  obtain ⟨g3, hF⟩ := hg_some hF
  obtain ⟨n4, sn4, in4⟩ := hm_ib_ok g3
  refine jv_iaload hC dX12_guilds_5 sn4 in4 ?_
  obtain ⟨rfl, rfl⟩ := hr_some hF
  exact jv_iret hC dX12_guilds_6
set_option maxRecDepth 100000 in
set_option maxHeartbeats 4000000 in
theorem k_Md_isGuild {n : Nat} {S : hm_S} {v0 : Nat} {v1 : Int32} {M : hm_M} {r : Int32} {M' : hm_M} (hF : f_Md_isGuild S v0 v1 M = some (r, M')) : hm_KM yX12_isGuild cX12_isGuild 2 (some .boolean) 2 n S [.ref v0, .int v1] M (some (.int r)) M' := by
  refine hm_enter mm_Md_isGuild (Nat.le_of_ble_eq_true rfl) (fun X hC => ?_)
  show hm_U X 0 [(0, .ref v0), (1, .int v1)] [] M _
  unfold f_Md_isGuild at hF
  refine jv_iload_n hC 1 dX12_isGuild_0 rfl ?_
  refine jv_if_lt hC 16 dX12_isGuild_1 (by decide) (fun h1 => ?_) (fun h1 => ?_)
  · have hF := hi_pos h1 hF
    refine jv_iconst hC dX12_isGuild_16 c32_0 ?_
    obtain ⟨rfl, rfl⟩ := hr_some hF
    exact jv_zret hC (by decide) dX12_isGuild_17
  · have hF := hi_neg h1 hF
    refine jv_iload_n hC 1 dX12_isGuild_4 rfl ?_
    refine jv_aload_n hC 0 dX12_isGuild_5 rfl ?_
    obtain ⟨g2, hF⟩ := hg_some hF
    obtain ⟨r5, M4, c3, hF⟩ := hb_some hF
    refine jv_callV hC (st := [.int v1]) [] (k_Md_guilds c3) mm_Md_guilds mi_Md_guilds ml_X12_266 dX12_isGuild_6 g2 rfl (Nat.le_of_ble_eq_true rfl) rfl rfl (Nat.le_of_ble_eq_true rfl) ?_
    refine jv_nf 9 [.int r5, .int v1] rfl rfl ?_
    refine jv_icmp_ge hC 16 dX12_isGuild_9 (by decide) (fun h6 => ?_) (fun h6 => ?_)
    · have hF := hi_pos h6 hF
      refine jv_iconst hC dX12_isGuild_16 c32_0 ?_
      obtain ⟨rfl, rfl⟩ := hr_some hF
      exact jv_zret hC (by decide) dX12_isGuild_17
    · have hF := hi_neg h6 hF
      refine jv_iconst hC dX12_isGuild_12 c32_1 ?_
      refine jv_goto hC 17 dX12_isGuild_13 (by decide) ?_
      obtain ⟨rfl, rfl⟩ := hr_some hF
      exact jv_zret hC (by decide) dX12_isGuild_17
set_option maxRecDepth 100000 in
set_option maxHeartbeats 4000000 in
theorem k_Md_draw {n : Nat} {S : hm_S} {v0 : Nat} {v1 : Int32} {M : hm_M} {r : Int32} {M' : hm_M} (hF : f_Md_draw S v0 v1 M = some (r, M')) : hm_KM yX12_draw cX12_draw 2 (some .int) 1 n S [.ref v0, .int v1] M (some (.int r)) M' := by
  refine hm_enter mm_Md_draw (Nat.le_of_ble_eq_true rfl) (fun X hC => ?_)
  show hm_U X 0 [(0, .ref v0), (1, .int v1)] [] M _
  unfold f_Md_draw at hF
  refine jv_aload_n hC 0 dX12_draw_0 rfl ?_
  refine jv_aload_n hC 0 dX12_draw_1 rfl ?_
  obtain ⟨g1, hF⟩ := hg_some hF
  refine jv_getL hC fl_X12_381 dX12_draw_2 rfl g1 ?_
  refine jv_ldc2 hC cl_X12_385 dX12_draw_5 ?_
  refine jv_lmul hC dX12_draw_8 ?_
  refine jv_ldc2 hC cl_X12_387 dX12_draw_9 ?_
  refine jv_ladd hC dX12_draw_12 ?_
  refine jv_pc 13 rfl ?_
  refine jv_ldc2 hC cl_X12_389 dX12_draw_13 ?_
  refine jv_lrem hC dX12_draw_16 (by decide) ?_
  refine jv_putL hC fl_X12_381 dX12_draw_17 rfl g1 ?_
  obtain ⟨M2, e3, hF⟩ := hl_some hF
  refine jv_mem e3 ?_
  refine jv_aload_n hC 0 dX12_draw_20 rfl ?_
  refine jv_getL hC fl_X12_381 dX12_draw_21 rfl g1 ?_
  refine jv_ldc2 hC cl_X12_391 dX12_draw_24 ?_
  refine jv_ldiv hC dX12_draw_27 (by decide) ?_
  refine jv_iload_n hC 1 dX12_draw_28 rfl ?_
  refine jv_pc 29 rfl ?_
  refine jv_i2l hC dX12_draw_29 ?_
  obtain ⟨g4, hF⟩ := hg_some hF
  refine jv_lrem hC dX12_draw_30 g4 ?_
  refine jv_l2i hC dX12_draw_31 ?_
  obtain ⟨rfl, rfl⟩ := hr_some hF
  exact jv_iret hC dX12_draw_32
set_option maxRecDepth 100000 in
set_option maxHeartbeats 4000000 in
theorem s_Md_rentsOf_2 {X : hm_X} {n : Nat} {S : hm_S} (hC : hm_C X RX12 cX12_rentsOf 4 (some .int) 2 n S) {k4 : Nat → Int32 → Int32 → Int32 → hm_M → Option (Int32 × hm_M)} (hk4 : ∀ (v0 : Nat) (v1 : Int32) (v2 : Int32) (v3 : Int32)  (M : hm_M) (r : Int32) (M' : hm_M), k4 v0 v1 v2 v3 M = some (r, M') → hm_U X 4 [(0, .ref v0), (1, .int v1), (2, .int v2), (3, .int v3)] [] M (hm_Q X (some (.int r)) M')) {v0 : Nat} {v1 : Int32} {v3 : Int32} {s0 : Int32} {s1 : Int32} {M : hm_M} {r : Int32} {M' : hm_M} (hF : b_Md_rentsOf_2 S k4 v0 v1 v3 s0 s1 M = some (r, M')) : hm_U X 32 [(0, .ref v0), (1, .int v1), (3, .int v3)] [.int s0, .int s1] M (hm_Q X (some (.int r)) M') := by
  unfold b_Md_rentsOf_2 at hF
  refine jv_iadd hC dX12_rentsOf_32 ?_
  obtain ⟨x1, e2, hF⟩ := hl_some hF
  refine jv_topI e2 ?_
  refine jv_istore_n hC [(2, .int x1), (0, .ref v0), (1, .int v1), (3, .int v3)] dX12_rentsOf_33 (by decide) rfl ?_
  refine jv_iinc hC 3 [(3, .int (v3 + (1 : Int32))), (2, .int x1), (0, .ref v0), (1, .int v1)] dX12_rentsOf_34 rfl c32_1 (by decide) rfl ?_
  refine jv_goto hC 4 dX12_rentsOf_37 (by decide) ?_
  refine jv_sub [2, 3, 1, 0] (ls' := [(0, .ref v0), (1, .int v1), (2, .int x1), (3, .int (v3 + (1 : Int32)))]) rfl ?_
  exact jv_pc 4 rfl (hk4 _ _ _ _ _ _ _ hF)
set_option maxRecDepth 100000 in
set_option maxHeartbeats 4000000 in
theorem t_Md_rentsOf_1 {X : hm_X} {n : Nat} {S : hm_S} (hC : hm_C X RX12 cX12_rentsOf 4 (some .int) 2 n S) {k4 : Nat → Int32 → Int32 → Int32 → hm_M → Option (Int32 × hm_M)} (hk4 : ∀ (v0 : Nat) (v1 : Int32) (v2 : Int32) (v3 : Int32)  (M : hm_M) (r : Int32) (M' : hm_M), k4 v0 v1 v2 v3 M = some (r, M') → hm_U X 4 [(0, .ref v0), (1, .int v1), (2, .int v2), (3, .int v3)] [] M (hm_Q X (some (.int r)) M')) {v0 : Nat} {v1 : Int32} {v2 : Int32} {v3 : Int32} {M : hm_M} {r : Int32} {M' : hm_M} (hF : b_Md_rentsOf_1 S k4 v0 v1 v2 v3 M = some (r, M')) : hm_U X 4 [(0, .ref v0), (1, .int v1), (2, .int v2), (3, .int v3)] [] M (hm_Q X (some (.int r)) M') := by
  unfold b_Md_rentsOf_1 at hF
  refine jv_iload_n hC 3 dX12_rentsOf_4 rfl ?_
  refine jv_aload_n hC 0 dX12_rentsOf_5 rfl ?_
  obtain ⟨g1, hF⟩ := hg_some hF
  obtain ⟨r4, M3, c2, hF⟩ := hb_some hF
  refine jv_callV hC (st := [.int v3]) [] (k_Md_panes c2) mm_Md_panes mi_Md_panes ml_X12_269 dX12_rentsOf_6 g1 rfl (Nat.le_of_ble_eq_true rfl) rfl rfl (Nat.le_of_ble_eq_true rfl) ?_
  refine jv_nf 9 [.int r4, .int v3] rfl rfl ?_
  refine jv_icmp_ge hC 40 dX12_rentsOf_9 (by decide) (fun h5 => ?_) (fun h5 => ?_)
  · have hF := hi_pos h5 hF
    refine jv_iload_n hC 2 dX12_rentsOf_40 rfl ?_
    obtain ⟨rfl, rfl⟩ := hr_some hF
    exact jv_iret hC dX12_rentsOf_41
  · have hF := hi_neg h5 hF
    refine jv_iload_n hC 2 dX12_rentsOf_12 rfl ?_
    refine jv_aload_n hC 0 dX12_rentsOf_13 rfl ?_
    refine jv_iload_n hC 3 dX12_rentsOf_14 rfl ?_
    obtain ⟨r8, M7, c6, hF⟩ := hb_some hF
    refine jv_callV hC (st := [.int v2]) [.int v3] (k_Md_ownerOf c6) mm_Md_ownerOf mi_Md_ownerOf ml_X12_289 dX12_rentsOf_15 g1 rfl (Nat.le_of_ble_eq_true rfl) rfl rfl (Nat.le_of_ble_eq_true rfl) ?_
    refine jv_nf 18 [.int r8, .int v2] rfl rfl ?_
    refine jv_iload_n hC 1 dX12_rentsOf_18 rfl ?_
    refine jv_icmp_ne hC 31 dX12_rentsOf_19 (by decide) (fun h9 => ?_) (fun h9 => ?_)
    · have hF := hi_neg h9 hF
      refine jv_iconst hC dX12_rentsOf_31 c32_0 ?_
      refine jv_sub [0, 1, 3] (ls' := [(0, .ref v0), (1, .int v1), (3, .int v3)]) rfl ?_
      exact jv_pc 32 rfl (s_Md_rentsOf_2 hC hk4 hF)
    · have hF := hi_pos h9 hF
      refine jv_aload_n hC 0 dX12_rentsOf_22 rfl ?_
      obtain ⟨g10, hF⟩ := hg_some hF
      refine jv_getR hC fl_X12_109 dX12_rentsOf_23 rfl g1 g10 ?_
      refine jv_iload_n hC 3 dX12_rentsOf_26 rfl ?_
      obtain ⟨g11, hF⟩ := hg_some hF
      obtain ⟨n12, sn12, in12⟩ := hm_ib_ok g11
      refine jv_iaload hC dX12_rentsOf_27 sn12 in12 ?_
      refine jv_goto hC 32 dX12_rentsOf_28 (by decide) ?_
      refine jv_sub [0, 1, 3] (ls' := [(0, .ref v0), (1, .int v1), (3, .int v3)]) rfl ?_
      exact jv_pc 32 rfl (s_Md_rentsOf_2 hC hk4 hF)
theorem s_Md_rentsOf_1 {X : hm_X} {n : Nat} {S : hm_S} (hC : hm_C X RX12 cX12_rentsOf 4 (some .int) 2 n S) : ∀ (q : Nat) (v0 : Nat) (v1 : Int32) (v2 : Int32) (v3 : Int32) (M : hm_M) (r : Int32) (M' : hm_M), f_Md_rentsOf_1 S  q v0 v1 v2 v3 M = some (r, M') → hm_U X 4 [(0, .ref v0), (1, .int v1), (2, .int v2), (3, .int v3)] [] M (hm_Q X (some (.int r)) M') := by
  intro q
  induction q with
  | zero => intro v0 v1 v2 v3 M r M' hF; cases hF
  | succ q ih => intro v0 v1 v2 v3 M r M' hF; exact t_Md_rentsOf_1 hC ih hF
set_option maxRecDepth 100000 in
set_option maxHeartbeats 4000000 in
theorem k_Md_rentsOf {n : Nat} {S : hm_S} {v0 : Nat} {v1 : Int32} {M : hm_M} {r : Int32} {M' : hm_M} (hF : f_Md_rentsOf S v0 v1 M = some (r, M')) : hm_KM yX12_rentsOf cX12_rentsOf 4 (some .int) 2 n S [.ref v0, .int v1] M (some (.int r)) M' := by
  refine hm_enter mm_Md_rentsOf (Nat.le_of_ble_eq_true rfl) (fun X hC => ?_)
  show hm_U X 0 [(0, .ref v0), (1, .int v1)] [] M _
  unfold f_Md_rentsOf at hF
  refine jv_iconst hC dX12_rentsOf_0 c32_0 ?_
  refine jv_istore_n hC [(2, .int (0 : Int32)), (0, .ref v0), (1, .int v1)] dX12_rentsOf_1 (by decide) rfl ?_
  refine jv_iconst hC dX12_rentsOf_2 c32_0 ?_
  refine jv_istore_n hC [(3, .int (0 : Int32)), (2, .int (0 : Int32)), (0, .ref v0), (1, .int v1)] dX12_rentsOf_3 (by decide) rfl ?_
  refine jv_sub [2, 3, 1, 0] (ls' := [(0, .ref v0), (1, .int v1), (2, .int (0 : Int32)), (3, .int (0 : Int32))]) rfl ?_
  exact jv_pc 4 rfl (s_Md_rentsOf_1 hC hN _ _ _ _ _ _ _ hF)
set_option maxRecDepth 100000 in
set_option maxHeartbeats 4000000 in
theorem s_Md_clouded_6 {X : hm_X} {n : Nat} {S : hm_S} (hC : hm_C X RX12 cX12_clouded 5 (some .int) 6 n S) {k116 : Nat → Int32 → Int32 → Int32 → hm_M → Option (Int32 × hm_M)} (hk116 : ∀ (v0 : Nat) (v2 : Int32) (v3 : Int32) (v4 : Int32)  (M : hm_M) (r : Int32) (M' : hm_M), k116 v0 v2 v3 v4 M = some (r, M') → hm_U X 116 [(0, .ref v0), (2, .int v2), (3, .int v3), (4, .int v4)] [] M (hm_Q X (some (.int r)) M')) {v0 : Nat} {v2 : Int32} {v4 : Int32} {s0 : Int32} {s1 : Int32} {M : hm_M} {r : Int32} {M' : hm_M} (hF : b_Md_clouded_6 S k116 v0 v2 v4 s0 s1 M = some (r, M')) : hm_U X 153 [(0, .ref v0), (2, .int v2), (4, .int v4)] [.int s0, .int s1] M (hm_Q X (some (.int r)) M') := by
  unfold b_Md_clouded_6 at hF
  refine jv_iadd hC dX12_clouded_153 ?_
  obtain ⟨x1, e2, hF⟩ := hl_some hF
  refine jv_topI e2 ?_
  refine jv_istore_n hC [(3, .int x1), (0, .ref v0), (2, .int v2), (4, .int v4)] dX12_clouded_154 (by decide) rfl ?_
  refine jv_iinc hC 3 [(4, .int (v4 + (1 : Int32))), (3, .int x1), (0, .ref v0), (2, .int v2)] dX12_clouded_155 rfl c32_1 (by decide) rfl ?_
  refine jv_goto hC 116 dX12_clouded_158 (by decide) ?_
  refine jv_sub [2, 3, 1, 0] (ls' := [(0, .ref v0), (2, .int v2), (3, .int x1), (4, .int (v4 + (1 : Int32)))]) rfl ?_
  exact jv_pc 116 rfl (hk116 _ _ _ _ _ _ _ hF)
set_option maxRecDepth 100000 in
set_option maxHeartbeats 4000000 in
theorem t_Md_clouded_5 {X : hm_X} {n : Nat} {S : hm_S} (hC : hm_C X RX12 cX12_clouded 5 (some .int) 6 n S) {k116 : Nat → Int32 → Int32 → Int32 → hm_M → Option (Int32 × hm_M)} (hk116 : ∀ (v0 : Nat) (v2 : Int32) (v3 : Int32) (v4 : Int32)  (M : hm_M) (r : Int32) (M' : hm_M), k116 v0 v2 v3 v4 M = some (r, M') → hm_U X 116 [(0, .ref v0), (2, .int v2), (3, .int v3), (4, .int v4)] [] M (hm_Q X (some (.int r)) M')) {v0 : Nat} {v2 : Int32} {v3 : Int32} {v4 : Int32} {M : hm_M} {r : Int32} {M' : hm_M} (hF : b_Md_clouded_5 S k116 v0 v2 v3 v4 M = some (r, M')) : hm_U X 116 [(0, .ref v0), (2, .int v2), (3, .int v3), (4, .int v4)] [] M (hm_Q X (some (.int r)) M') := by
  unfold b_Md_clouded_5 at hF
  refine jv_iload hC 3 dX12_clouded_116 rfl ?_
  refine jv_aload_n hC 0 dX12_clouded_118 rfl ?_
  obtain ⟨g1, hF⟩ := hg_some hF
  obtain ⟨r4, M3, c2, hF⟩ := hb_some hF
  refine jv_callV hC (st := [.int v4]) [] (k_Md_guilds c2) mm_Md_guilds mi_Md_guilds ml_X12_266 dX12_clouded_119 g1 rfl (Nat.le_of_ble_eq_true rfl) rfl rfl (Nat.le_of_ble_eq_true rfl) ?_
  refine jv_nf 122 [.int r4, .int v4] rfl rfl ?_
  refine jv_icmp_ge hC 161 dX12_clouded_122 (by decide) (fun h5 => ?_) (fun h5 => ?_)
  · have hF := hi_pos h5 hF
    refine jv_iload_n hC 1 dX12_clouded_161 rfl ?_
    refine jv_iconst hC dX12_clouded_162 c32_m1 ?_
    refine jv_icmp_ne hC 170 dX12_clouded_163 (by decide) (fun h6 => ?_) (fun h6 => ?_)
    · have hF := hi_neg h6 hF
      refine jv_aload_n hC 0 dX12_clouded_170 rfl ?_
      refine jv_iload_n hC 1 dX12_clouded_171 rfl ?_
      obtain ⟨r9, M8, c7, hF⟩ := hb_some hF
      refine jv_callV hC (st := []) [.int v2] (k_Md_rentsOf c7) mm_Md_rentsOf mi_Md_rentsOf ml_X12_323 dX12_clouded_172 g1 rfl (Nat.le_of_ble_eq_true rfl) rfl rfl (Nat.le_of_ble_eq_true rfl) ?_
      refine jv_nf 175 [.int r9] rfl rfl ?_
      obtain ⟨rfl, rfl⟩ := hr_some hF
      exact jv_iret hC dX12_clouded_175
    · have hF := hi_pos h6 hF
      refine jv_iload_n hC 2 dX12_clouded_166 rfl ?_
      refine jv_goto hC 175 dX12_clouded_167 (by decide) ?_
      obtain ⟨rfl, rfl⟩ := hr_some hF
      exact jv_iret hC dX12_clouded_175
  · have hF := hi_neg h5 hF
    refine jv_iload_n hC 2 dX12_clouded_125 rfl ?_
    refine jv_aload_n hC 0 dX12_clouded_126 rfl ?_
    refine jv_iload hC 3 dX12_clouded_127 rfl ?_
    obtain ⟨r12, M11, c10, hF⟩ := hb_some hF
    refine jv_callV hC (st := [.int v3]) [.int v4] (k_Md_rentsOf c10) mm_Md_rentsOf mi_Md_rentsOf ml_X12_323 dX12_clouded_129 g1 rfl (Nat.le_of_ble_eq_true rfl) rfl rfl (Nat.le_of_ble_eq_true rfl) ?_
    refine jv_nf 132 [.int r12, .int v3] rfl rfl ?_
    refine jv_aload_n hC 0 dX12_clouded_132 rfl ?_
    obtain ⟨g13, hF⟩ := hg_some hF
    refine jv_getR hC fl_X12_81 dX12_clouded_133 rfl g1 g13 ?_
    refine jv_iconst hC dX12_clouded_136 c32_5 ?_
    refine jv_iconst hC dX12_clouded_137 c32_2 ?_
    refine jv_iload hC 3 dX12_clouded_138 rfl ?_
    refine jv_imul hC dX12_clouded_140 ?_
    refine jv_iadd hC dX12_clouded_141 ?_
    refine jv_pc 142 rfl ?_
    refine jv_iconst hC dX12_clouded_142 c32_1 ?_
    refine jv_iadd hC dX12_clouded_143 ?_
    obtain ⟨g14, hF⟩ := hg_some hF
    obtain ⟨n15, sn15, in15⟩ := hm_ib_ok g14
    refine jv_iaload hC dX12_clouded_144 sn15 in15 ?_
    refine jv_icmp_ge hC 152 dX12_clouded_145 (by decide) (fun h16 => ?_) (fun h16 => ?_)
    · have hF := hi_pos h16 hF
      refine jv_iconst hC dX12_clouded_152 c32_0 ?_
      refine jv_sub [0, 1, 3] (ls' := [(0, .ref v0), (2, .int v2), (4, .int v4)]) rfl ?_
      exact jv_pc 153 rfl (s_Md_clouded_6 hC hk116 hF)
    · have hF := hi_neg h16 hF
      refine jv_iconst hC dX12_clouded_148 c32_1 ?_
      refine jv_goto hC 153 dX12_clouded_149 (by decide) ?_
      refine jv_sub [0, 1, 3] (ls' := [(0, .ref v0), (2, .int v2), (4, .int v4)]) rfl ?_
      exact jv_pc 153 rfl (s_Md_clouded_6 hC hk116 hF)
theorem s_Md_clouded_5 {X : hm_X} {n : Nat} {S : hm_S} (hC : hm_C X RX12 cX12_clouded 5 (some .int) 6 n S) : ∀ (q : Nat) (v0 : Nat) (v2 : Int32) (v3 : Int32) (v4 : Int32) (M : hm_M) (r : Int32) (M' : hm_M), f_Md_clouded_5 S  q v0 v2 v3 v4 M = some (r, M') → hm_U X 116 [(0, .ref v0), (2, .int v2), (3, .int v3), (4, .int v4)] [] M (hm_Q X (some (.int r)) M') := by
  intro q
  induction q with
  | zero => intro v0 v2 v3 v4 M r M' hF; cases hF
  | succ q ih => intro v0 v2 v3 v4 M r M' hF; exact t_Md_clouded_5 hC ih hF
set_option maxRecDepth 100000 in
set_option maxHeartbeats 4000000 in
theorem t_Md_clouded_4 {X : hm_X} {n : Nat} {S : hm_S} (hC : hm_C X RX12 cX12_clouded 5 (some .int) 6 n S) {k71 : Nat → Int32 → Int32 → hm_M → Option (Int32 × hm_M)} (hk71 : ∀ (v0 : Nat) (v2 : Int32) (v3 : Int32)  (M : hm_M) (r : Int32) (M' : hm_M), k71 v0 v2 v3 M = some (r, M') → hm_U X 71 [(0, .ref v0), (2, .int v2), (3, .int v3)] [] M (hm_Q X (some (.int r)) M')) {v0 : Nat} {v2 : Int32} {v3 : Int32} {M : hm_M} {r : Int32} {M' : hm_M} (hF : b_Md_clouded_4 S k71 v0 v2 v3 M = some (r, M')) : hm_U X 71 [(0, .ref v0), (2, .int v2), (3, .int v3)] [] M (hm_Q X (some (.int r)) M') := by
  unfold b_Md_clouded_4 at hF
  refine jv_iload_n hC 2 dX12_clouded_71 rfl ?_
  refine jv_sipush hC dX12_clouded_72 c16_1248 ?_
  refine jv_icmp_ge hC 111 dX12_clouded_75 (by decide) (fun h1 => ?_) (fun h1 => ?_)
  · have hF := hi_pos h1 hF
    refine jv_iconst hC dX12_clouded_111 c32_0 ?_
    refine jv_istore_n hC [(3, .int (0 : Int32)), (0, .ref v0), (2, .int v2)] dX12_clouded_112 (by decide) rfl ?_
    refine jv_iconst hC dX12_clouded_113 c32_0 ?_
    refine jv_istore hC [(4, .int (0 : Int32)), (3, .int (0 : Int32)), (0, .ref v0), (2, .int v2)] dX12_clouded_114 (by decide) rfl ?_
    refine jv_sub [2, 3, 1, 0] (ls' := [(0, .ref v0), (2, .int v2), (3, .int (0 : Int32)), (4, .int (0 : Int32))]) rfl ?_
    exact jv_pc 116 rfl (s_Md_clouded_5 hC hN _ _ _ _ _ _ _ hF)
  · have hF := hi_neg h1 hF
    refine jv_aload_n hC 0 dX12_clouded_78 rfl ?_
    refine jv_bipush hC dX12_clouded_79 c8_8 ?_
    obtain ⟨g2, hF⟩ := hg_some hF
    obtain ⟨r5, M4, c3, hF⟩ := hb_some hF
    refine jv_callV hC (st := []) [.int (8 : Int32)] (k_Md_draw c3) mm_Md_draw mi_Md_draw ml_X12_393 dX12_clouded_81 g2 rfl (Nat.le_of_ble_eq_true rfl) rfl rfl (Nat.le_of_ble_eq_true rfl) ?_
    refine jv_nf 84 [.int r5] rfl rfl ?_
    refine jv_aload_n hC 0 dX12_clouded_84 rfl ?_
    obtain ⟨g6, hF⟩ := hg_some hF
    refine jv_getR hC fl_X12_81 dX12_clouded_85 rfl g2 g6 ?_
    refine jv_iconst hC dX12_clouded_88 c32_2 ?_
    obtain ⟨g7, hF⟩ := hg_some hF
    obtain ⟨n8, sn8, in8⟩ := hm_ib_ok g7
    refine jv_iaload hC dX12_clouded_89 sn8 in8 ?_
    refine jv_icmp_lt hC 105 dX12_clouded_90 (by decide) (fun h9 => ?_) (fun h9 => ?_)
    · have hF := hi_pos h9 hF
      refine jv_iinc hC 2 [(3, .int (v3 + (1 : Int32))), (0, .ref v0), (2, .int v2)] dX12_clouded_105 rfl c32_1 (by decide) rfl ?_
      refine jv_goto hC 71 dX12_clouded_108 (by decide) ?_
      refine jv_sub [1, 2, 0] (ls' := [(0, .ref v0), (2, .int v2), (3, .int (v3 + (1 : Int32)))]) rfl ?_
      exact jv_pc 71 rfl (hk71 _ _ _ _ _ _ hF)
    · have hF := hi_neg h9 hF
      refine jv_aload_n hC 0 dX12_clouded_93 rfl ?_
      refine jv_iload_n hC 2 dX12_clouded_94 rfl ?_
      refine jv_bipush hC dX12_clouded_95 c8_24 ?_
      refine jv_idiv hC dX12_clouded_97 (by decide) ?_
      refine jv_iload_n hC 2 dX12_clouded_98 rfl ?_
      refine jv_bipush hC dX12_clouded_99 c8_24 ?_
      refine jv_irem hC dX12_clouded_101 (by decide) ?_
      refine jv_pc 102 rfl ?_
      obtain ⟨M11, c10, hF⟩ := hv_some hF
      refine jv_callV hC (st := []) [.int (v3 / (24 : Int32)), .int (v3 - v3 / (24 : Int32) * (24 : Int32))] (k_Md_addsYields c10) mm_Md_addsYields mi_Md_addsYields ml_X12_308 dX12_clouded_102 g2 rfl (Nat.le_of_ble_eq_true rfl) rfl rfl (Nat.le_of_ble_eq_true rfl) ?_
      refine jv_nf 105 [] rfl rfl ?_
      refine jv_iinc hC 2 [(3, .int (v3 + (1 : Int32))), (0, .ref v0), (2, .int v2)] dX12_clouded_105 rfl c32_1 (by decide) rfl ?_
      refine jv_goto hC 71 dX12_clouded_108 (by decide) ?_
      refine jv_sub [1, 2, 0] (ls' := [(0, .ref v0), (2, .int v2), (3, .int (v3 + (1 : Int32)))]) rfl ?_
      exact jv_pc 71 rfl (hk71 _ _ _ _ _ _ hF)
theorem s_Md_clouded_4 {X : hm_X} {n : Nat} {S : hm_S} (hC : hm_C X RX12 cX12_clouded 5 (some .int) 6 n S) : ∀ (q : Nat) (v0 : Nat) (v2 : Int32) (v3 : Int32) (M : hm_M) (r : Int32) (M' : hm_M), f_Md_clouded_4 S  q v0 v2 v3 M = some (r, M') → hm_U X 71 [(0, .ref v0), (2, .int v2), (3, .int v3)] [] M (hm_Q X (some (.int r)) M') := by
  intro q
  induction q with
  | zero => intro v0 v2 v3 M r M' hF; cases hF
  | succ q ih => intro v0 v2 v3 M r M' hF; exact t_Md_clouded_4 hC ih hF
set_option maxRecDepth 100000 in
set_option maxHeartbeats 4000000 in
theorem t_Md_clouded_3 {X : hm_X} {n : Nat} {S : hm_S} (hC : hm_C X RX12 cX12_clouded 5 (some .int) 6 n S) {k50 : Nat → Int32 → Int32 → hm_M → Option (Int32 × hm_M)} (hk50 : ∀ (v0 : Nat) (v2 : Int32) (v3 : Int32)  (M : hm_M) (r : Int32) (M' : hm_M), k50 v0 v2 v3 M = some (r, M') → hm_U X 50 [(0, .ref v0), (2, .int v2), (3, .int v3)] [] M (hm_Q X (some (.int r)) M')) {v0 : Nat} {v2 : Int32} {v3 : Int32} {M : hm_M} {r : Int32} {M' : hm_M} (hF : b_Md_clouded_3 S k50 v0 v2 v3 M = some (r, M')) : hm_U X 50 [(0, .ref v0), (2, .int v2), (3, .int v3)] [] M (hm_Q X (some (.int r)) M') := by
  unfold b_Md_clouded_3 at hF
  refine jv_iload_n hC 2 dX12_clouded_50 rfl ?_
  refine jv_bipush hC dX12_clouded_51 c8_12 ?_
  refine jv_icmp_ge hC 69 dX12_clouded_53 (by decide) (fun h1 => ?_) (fun h1 => ?_)
  · have hF := hi_pos h1 hF
    refine jv_iconst hC dX12_clouded_69 c32_0 ?_
    refine jv_istore_n hC [(3, .int (0 : Int32)), (0, .ref v0), (2, .int v2)] dX12_clouded_70 (by decide) rfl ?_
    refine jv_sub [1, 2, 0] (ls' := [(0, .ref v0), (2, .int v2), (3, .int (0 : Int32))]) rfl ?_
    exact jv_pc 71 rfl (s_Md_clouded_4 hC hN _ _ _ _ _ _ hF)
  · have hF := hi_neg h1 hF
    refine jv_aload_n hC 0 dX12_clouded_56 rfl ?_
    obtain ⟨g2, hF⟩ := hg_some hF
    obtain ⟨g3, hF⟩ := hg_some hF
    refine jv_getR hC fl_X12_109 dX12_clouded_57 rfl g2 g3 ?_
    refine jv_iload_n hC 2 dX12_clouded_60 rfl ?_
    refine jv_iconst hC dX12_clouded_61 c32_0 ?_
    obtain ⟨g4, hF⟩ := hg_some hF
    obtain ⟨n5, sn5, in5⟩ := hm_ib_ok g4
    refine jv_iastore hC dX12_clouded_62 sn5 in5 ?_
    obtain ⟨M6, e7, hF⟩ := hl_some hF
    refine jv_mem e7 ?_
    refine jv_iinc hC 2 [(3, .int (v3 + (1 : Int32))), (0, .ref v0), (2, .int v2)] dX12_clouded_63 rfl c32_1 (by decide) rfl ?_
    refine jv_goto hC 50 dX12_clouded_66 (by decide) ?_
    refine jv_sub [1, 2, 0] (ls' := [(0, .ref v0), (2, .int v2), (3, .int (v3 + (1 : Int32)))]) rfl ?_
    exact jv_pc 50 rfl (hk50 _ _ _ _ _ _ hF)
theorem s_Md_clouded_3 {X : hm_X} {n : Nat} {S : hm_S} (hC : hm_C X RX12 cX12_clouded 5 (some .int) 6 n S) : ∀ (q : Nat) (v0 : Nat) (v2 : Int32) (v3 : Int32) (M : hm_M) (r : Int32) (M' : hm_M), f_Md_clouded_3 S  q v0 v2 v3 M = some (r, M') → hm_U X 50 [(0, .ref v0), (2, .int v2), (3, .int v3)] [] M (hm_Q X (some (.int r)) M') := by
  intro q
  induction q with
  | zero => intro v0 v2 v3 M r M' hF; cases hF
  | succ q ih => intro v0 v2 v3 M r M' hF; exact t_Md_clouded_3 hC ih hF
set_option maxRecDepth 100000 in
set_option maxHeartbeats 4000000 in
theorem s_Md_clouded_2 {X : hm_X} {n : Nat} {S : hm_S} (hC : hm_C X RX12 cX12_clouded 5 (some .int) 6 n S) {v0 : Nat} {v1 : Int32} {v2 : Int32} {s0 : Int32} {s1 : Nat} {M : hm_M} {r : Int32} {M' : hm_M} (hF : b_Md_clouded_2 S v0 v1 v2 s0 s1 M = some (r, M')) : hm_U X 30 [(0, .ref v0), (1, .int v1), (2, .int v2)] [.int s0, .ref s1] M (hm_Q X (some (.int r)) M') := by
  unfold b_Md_clouded_2 at hF
  obtain ⟨g1, hF⟩ := hg_some hF
  refine jv_putI hC fl_X12_1 dX12_clouded_30 rfl rfl rfl g1 ?_
  obtain ⟨M2, e3, hF⟩ := hl_some hF
  refine jv_mem e3 ?_
  refine jv_aload_n hC 0 dX12_clouded_33 rfl ?_
  obtain ⟨g4, hF⟩ := hg_some hF
  refine jv_getI hC fl_X12_1 dX12_clouded_34 rfl g4 ?_
  refine jv_if_le hC 42 dX12_clouded_37 (by decide) (fun h5 => ?_) (fun h5 => ?_)
  · have hF := hi_pos h5 hF
    refine jv_aload_n hC 0 dX12_clouded_42 rfl ?_
    refine jv_iload_n hC 1 dX12_clouded_43 rfl ?_
    refine jv_i2l hC dX12_clouded_44 ?_
    refine jv_putL hC fl_X12_381 dX12_clouded_45 rfl g4 ?_
    obtain ⟨M6, e7, hF⟩ := hl_some hF
    refine jv_mem e7 ?_
    refine jv_iconst hC dX12_clouded_48 c32_0 ?_
    refine jv_istore_n hC [(3, .int (0 : Int32)), (0, .ref v0), (1, .int v1), (2, .int v2)] dX12_clouded_49 (by decide) rfl ?_
    refine jv_sub [1, 3, 0] (ls' := [(0, .ref v0), (2, .int v2), (3, .int (0 : Int32))]) rfl ?_
    exact jv_pc 50 rfl (s_Md_clouded_3 hC hN _ _ _ _ _ _ hF)
  · have hF := hi_neg h5 hF
    refine jv_iconst hC dX12_clouded_40 c32_0 ?_
    obtain ⟨rfl, rfl⟩ := hr_some hF
    exact jv_iret hC dX12_clouded_41
set_option maxRecDepth 100000 in
set_option maxHeartbeats 4000000 in
theorem s_Md_clouded_1 {X : hm_X} {n : Nat} {S : hm_S} (hC : hm_C X RX12 cX12_clouded 5 (some .int) 6 n S) {v0 : Nat} {v1 : Int32} {v2 : Int32} {s0 : Nat} {M : hm_M} {r : Int32} {M' : hm_M} (hF : b_Md_clouded_1 S v0 v1 v2 s0 M = some (r, M')) : hm_U X 29 [(0, .ref v0), (1, .int v1), (2, .int v2)] [.ref s0] M (hm_Q X (some (.int r)) M') := by
  unfold b_Md_clouded_1 at hF
  refine jv_iconst hC dX12_clouded_29 c32_1 ?_
  exact jv_pc 30 rfl (s_Md_clouded_2 hC hF)
set_option maxRecDepth 100000 in
set_option maxHeartbeats 4000000 in
theorem k_Md_clouded {n : Nat} {S : hm_S} {v0 : Nat} {v1 : Int32} {v2 : Int32} {M : hm_M} {r : Int32} {M' : hm_M} (hF : f_Md_clouded S v0 v1 v2 M = some (r, M')) : hm_KM yX12_clouded cX12_clouded 5 (some .int) 6 n S [.ref v0, .int v1, .int v2] M (some (.int r)) M' := by
  refine hm_enter mm_Md_clouded (Nat.le_of_ble_eq_true rfl) (fun X hC => ?_)
  show hm_U X 0 [(0, .ref v0), (1, .int v1), (2, .int v2)] [] M _
  unfold f_Md_clouded at hF
  refine jv_aload_n hC 0 dX12_clouded_0 rfl ?_
  refine jv_iload_n hC 1 dX12_clouded_1 rfl ?_
  refine jv_iconst hC dX12_clouded_2 c32_0 ?_
  refine jv_sipush hC dX12_clouded_3 c16_9999 ?_
  obtain ⟨r3, M2, c1, hF⟩ := hb_some hF
  refine jv_callS hC (st := [.ref v0]) [.int v1, .int (0 : Int32), .int (9999 : Int32)] (k_Md_within c1) mm_Md_within ms_Md_within ml_X12_272 dX12_clouded_6 (Nat.le_of_ble_eq_true rfl) rfl rfl (Nat.le_of_ble_eq_true rfl) ?_
  refine jv_nf 9 [.int r3, .ref v0] rfl rfl ?_
  refine jv_if_eq hC 29 dX12_clouded_9 (by decide) (fun h4 => ?_) (fun h4 => ?_)
  · have hF := hi_pos h4 hF
    exact jv_pc 29 rfl (s_Md_clouded_1 hC hF)
  · have hF := hi_neg h4 hF
    refine jv_iload_n hC 2 dX12_clouded_12 rfl ?_
    refine jv_iconst hC dX12_clouded_13 c32_m1 ?_
    refine jv_icmp_eq hC 25 dX12_clouded_14 (by decide) (fun h5 => ?_) (fun h5 => ?_)
    · have hF := hi_pos h5 hF
      refine jv_iconst hC dX12_clouded_25 c32_0 ?_
      refine jv_goto hC 30 dX12_clouded_26 (by decide) ?_
      exact jv_pc 30 rfl (s_Md_clouded_2 hC hF)
    · have hF := hi_neg h5 hF
      refine jv_aload_n hC 0 dX12_clouded_17 rfl ?_
      refine jv_iload_n hC 2 dX12_clouded_18 rfl ?_
      obtain ⟨g6, hF⟩ := hg_some hF
      obtain ⟨r9, M8, c7, hF⟩ := hb_some hF
      refine jv_callV hC (st := [.ref v0]) [.int v2] (k_Md_isGuild c7) mm_Md_isGuild mi_Md_isGuild ml_X12_311 dX12_clouded_19 g6 rfl (Nat.le_of_ble_eq_true rfl) rfl rfl (Nat.le_of_ble_eq_true rfl) ?_
      refine jv_nf 22 [.int r9, .ref v0] rfl rfl ?_
      refine jv_if_eq hC 29 dX12_clouded_22 (by decide) (fun h10 => ?_) (fun h10 => ?_)
      · have hF := hi_pos h10 hF
        exact jv_pc 29 rfl (s_Md_clouded_1 hC hF)
      · have hF := hi_neg h10 hF
        refine jv_iconst hC dX12_clouded_25 c32_0 ?_
        refine jv_goto hC 30 dX12_clouded_26 (by decide) ?_
        exact jv_pc 30 rfl (s_Md_clouded_2 hC hF)
set_option maxRecDepth 100000 in
set_option maxHeartbeats 4000000 in
theorem k_Md_count {n : Nat} {S : hm_S} {v0 : Nat} {v1 : Int32} {M : hm_M} {r : Int32} {M' : hm_M} (hF : f_Md_count S v0 v1 M = some (r, M')) : hm_KM yX12_count cX12_count 2 (some .int) 2 n S [.ref v0, .int v1] M (some (.int r)) M' := by
  refine hm_enter mm_Md_count (Nat.le_of_ble_eq_true rfl) (fun X hC => ?_)
  show hm_U X 0 [(0, .ref v0), (1, .int v1)] [] M _
  unfold f_Md_count at hF
  refine jv_aload_n hC 0 dX12_count_0 rfl ?_
  refine jv_iconst hC dX12_count_1 c32_0 ?_
  obtain ⟨g1, hF⟩ := hg_some hF
  refine jv_putI hC fl_X12_1 dX12_count_2 rfl rfl rfl g1 ?_
  obtain ⟨M2, e3, hF⟩ := hl_some hF
  refine jv_mem e3 ?_
  refine jv_iload_n hC 1 dX12_count_5 rfl ?_
  by_cases h4 : v1 = (0 : Int32)
  · have hF := hi_pos h4 hF
    refine jv_tableIn hC 56 dX12_count_6 (by rw [h4]; decide) (by rw [h4]; decide) (by rw [h4]; rfl) (by decide) ?_
    refine jv_aload_n hC 0 dX12_count_56 rfl ?_
    obtain ⟨g5, hF⟩ := hg_some hF
    refine jv_getR hC fl_X12_81 dX12_count_57 rfl g1 g5 ?_
    refine jv_iconst hC dX12_count_60 c32_0 ?_
    obtain ⟨g6, hF⟩ := hg_some hF
    obtain ⟨n7, sn7, in7⟩ := hm_ib_ok g6
    refine jv_iaload hC dX12_count_61 sn7 in7 ?_
    obtain ⟨rfl, rfl⟩ := hr_some hF
    exact jv_iret hC dX12_count_62
  have hF := hi_neg h4 hF
  by_cases h8 : v1 = (1 : Int32)
  · have hF := hi_pos h8 hF
    refine jv_tableIn hC 63 dX12_count_6 (by rw [h8]; decide) (by rw [h8]; decide) (by rw [h8]; rfl) (by decide) ?_
    refine jv_aload_n hC 0 dX12_count_63 rfl ?_
    obtain ⟨g9, hF⟩ := hg_some hF
    refine jv_getR hC fl_X12_81 dX12_count_64 rfl g1 g9 ?_
    refine jv_iconst hC dX12_count_67 c32_1 ?_
    obtain ⟨g10, hF⟩ := hg_some hF
    obtain ⟨n11, sn11, in11⟩ := hm_ib_ok g10
    refine jv_iaload hC dX12_count_68 sn11 in11 ?_
    obtain ⟨rfl, rfl⟩ := hr_some hF
    exact jv_iret hC dX12_count_69
  have hF := hi_neg h8 hF
  by_cases h12 : v1 = (2 : Int32)
  · have hF := hi_pos h12 hF
    refine jv_tableIn hC 70 dX12_count_6 (by rw [h12]; decide) (by rw [h12]; decide) (by rw [h12]; rfl) (by decide) ?_
    refine jv_aload_n hC 0 dX12_count_70 rfl ?_
    obtain ⟨r15, M14, c13, hF⟩ := hb_some hF
    refine jv_callV hC (st := []) [] (k_Md_guilds c13) mm_Md_guilds mi_Md_guilds ml_X12_266 dX12_count_71 g1 rfl (Nat.le_of_ble_eq_true rfl) rfl rfl (Nat.le_of_ble_eq_true rfl) ?_
    refine jv_nf 74 [.int r15] rfl rfl ?_
    obtain ⟨rfl, rfl⟩ := hr_some hF
    exact jv_iret hC dX12_count_74
  have hF := hi_neg h12 hF
  by_cases h16 : v1 = (3 : Int32)
  · have hF := hi_pos h16 hF
    refine jv_tableIn hC 75 dX12_count_6 (by rw [h16]; decide) (by rw [h16]; decide) (by rw [h16]; rfl) (by decide) ?_
    refine jv_aload_n hC 0 dX12_count_75 rfl ?_
    obtain ⟨r19, M18, c17, hF⟩ := hb_some hF
    refine jv_callV hC (st := []) [] (k_Md_panes c17) mm_Md_panes mi_Md_panes ml_X12_269 dX12_count_76 g1 rfl (Nat.le_of_ble_eq_true rfl) rfl rfl (Nat.le_of_ble_eq_true rfl) ?_
    refine jv_nf 79 [.int r19] rfl rfl ?_
    obtain ⟨rfl, rfl⟩ := hr_some hF
    exact jv_iret hC dX12_count_79
  have hF := hi_neg h16 hF
  by_cases h20 : v1 = (4 : Int32)
  · have hF := hi_pos h20 hF
    refine jv_tableIn hC 80 dX12_count_6 (by rw [h20]; decide) (by rw [h20]; decide) (by rw [h20]; rfl) (by decide) ?_
    refine jv_aload_n hC 0 dX12_count_80 rfl ?_
    obtain ⟨g21, hF⟩ := hg_some hF
    refine jv_getR hC fl_X12_99 dX12_count_81 rfl g1 g21 ?_
    refine jv_bipush hC dX12_count_84 c8_12 ?_
    obtain ⟨g22, hF⟩ := hg_some hF
    obtain ⟨n23, sn23, in23⟩ := hm_ib_ok g22
    refine jv_iaload hC dX12_count_86 sn23 in23 ?_
    obtain ⟨r26, M25, c24, hF⟩ := hb_some hF
    refine jv_callS hC (st := []) [.int (M2.1 (M2.2.2 v0 20) (12 : Int32).toNatClampNeg)] (k_Md_bits c24) mm_Md_bits ms_Md_bits ml_X12_326 dX12_count_87 (Nat.le_of_ble_eq_true rfl) rfl rfl (Nat.le_of_ble_eq_true rfl) ?_
    refine jv_nf 90 [.int r26] rfl rfl ?_
    obtain ⟨rfl, rfl⟩ := hr_some hF
    exact jv_iret hC dX12_count_90
  have hF := hi_neg h20 hF
  by_cases h27 : v1 = (5 : Int32)
  · have hF := hi_pos h27 hF
    refine jv_tableIn hC 91 dX12_count_6 (by rw [h27]; decide) (by rw [h27]; decide) (by rw [h27]; rfl) (by decide) ?_
    refine jv_aload_n hC 0 dX12_count_91 rfl ?_
    refine jv_getI hC fl_X12_201 dX12_count_92 rfl g1 ?_
    obtain ⟨rfl, rfl⟩ := hr_some hF
    exact jv_iret hC dX12_count_95
  have hF := hi_neg h27 hF
  by_cases h28 : v1 = (6 : Int32)
  · have hF := hi_pos h28 hF
    refine jv_tableIn hC 96 dX12_count_6 (by rw [h28]; decide) (by rw [h28]; decide) (by rw [h28]; rfl) (by decide) ?_
    refine jv_aload_n hC 0 dX12_count_96 rfl ?_
    obtain ⟨r31, M30, c29, hF⟩ := hb_some hF
    refine jv_callV hC (st := []) [] (k_Md_seens c29) mm_Md_seens mi_Md_seens ml_X12_364 dX12_count_97 g1 rfl (Nat.le_of_ble_eq_true rfl) rfl rfl (Nat.le_of_ble_eq_true rfl) ?_
    refine jv_nf 100 [.int r31] rfl rfl ?_
    obtain ⟨rfl, rfl⟩ := hr_some hF
    exact jv_iret hC dX12_count_100
  have hF := hi_neg h28 hF
  by_cases h32 : v1 = (7 : Int32)
  · have hF := hi_pos h32 hF
    refine jv_tableIn hC 101 dX12_count_6 (by rw [h32]; decide) (by rw [h32]; decide) (by rw [h32]; rfl) (by decide) ?_
    refine jv_aload_n hC 0 dX12_count_101 rfl ?_
    obtain ⟨g33, hF⟩ := hg_some hF
    refine jv_getR hC fl_X12_81 dX12_count_102 rfl g1 g33 ?_
    refine jv_iconst hC dX12_count_105 c32_2 ?_
    obtain ⟨g34, hF⟩ := hg_some hF
    obtain ⟨n35, sn35, in35⟩ := hm_ib_ok g34
    refine jv_iaload hC dX12_count_106 sn35 in35 ?_
    obtain ⟨rfl, rfl⟩ := hr_some hF
    exact jv_iret hC dX12_count_107
  have hF := hi_neg h32 hF
  by_cases h36 : v1 = (8 : Int32)
  · have hF := hi_pos h36 hF
    refine jv_tableIn hC 108 dX12_count_6 (by rw [h36]; decide) (by rw [h36]; decide) (by rw [h36]; rfl) (by decide) ?_
    refine jv_aload_n hC 0 dX12_count_108 rfl ?_
    refine jv_getI hC fl_X12_11 dX12_count_109 rfl g1 ?_
    obtain ⟨rfl, rfl⟩ := hr_some hF
    exact jv_iret hC dX12_count_112
  have hF := hi_neg h36 hF
  refine jv_tableOut hC 113 dX12_count_6 (by have := hm_out (c := 0) (by decide) h4; have := hm_out (c := 1) (by decide) h8; have := hm_out (c := 2) (by decide) h12; have := hm_out (c := 3) (by decide) h16; have := hm_out (c := 4) (by decide) h20; have := hm_out (c := 5) (by decide) h27; have := hm_out (c := 6) (by decide) h28; have := hm_out (c := 7) (by decide) h32; have := hm_out (c := 8) (by decide) h36; omega) (by decide) ?_
  refine jv_iconst hC dX12_count_113 c32_m1 ?_
  obtain ⟨rfl, rfl⟩ := hr_some hF
  exact jv_iret hC dX12_count_114
set_option maxRecDepth 100000 in
set_option maxHeartbeats 4000000 in
theorem k_Md_exchange {n : Nat} {S : hm_S} {v0 : Nat} {v1 : Int32} {v2 : Int32} {M : hm_M} {r : Int32} {M' : hm_M} (hF : f_Md_exchange S v0 v1 v2 M = some (r, M')) : hm_KM yX12_exchange cX12_exchange 4 (some .boolean) 4 n S [.ref v0, .int v1, .int v2] M (some (.int r)) M' := by
  refine hm_enter mm_Md_exchange (Nat.le_of_ble_eq_true rfl) (fun X hC => ?_)
  show hm_U X 0 [(0, .ref v0), (1, .int v1), (2, .int v2)] [] M _
  unfold f_Md_exchange at hF
  refine jv_aload_n hC 0 dX12_exchange_0 rfl ?_
  refine jv_iconst hC dX12_exchange_1 c32_0 ?_
  obtain ⟨g1, hF⟩ := hg_some hF
  refine jv_putI hC fl_X12_1 dX12_exchange_2 rfl rfl rfl g1 ?_
  obtain ⟨M2, e3, hF⟩ := hl_some hF
  refine jv_mem e3 ?_
  refine jv_aload_n hC 0 dX12_exchange_5 rfl ?_
  refine jv_iload_n hC 1 dX12_exchange_6 rfl ?_
  refine jv_iload_n hC 2 dX12_exchange_7 rfl ?_
  obtain ⟨r6, M5, c4, hF⟩ := hb_some hF
  refine jv_callV hC (st := []) [.int v1, .int v2] (k_Md_areUnlike c4) mm_Md_areUnlike mi_Md_areUnlike ml_X12_332 dX12_exchange_8 g1 rfl (Nat.le_of_ble_eq_true rfl) rfl rfl (Nat.le_of_ble_eq_true rfl) ?_
  refine jv_nf 11 [.int r6] rfl rfl ?_
  refine jv_if_ne hC 16 dX12_exchange_11 (by decide) (fun h7 => ?_) (fun h7 => ?_)
  · have hF := hi_neg h7 hF
    refine jv_aload_n hC 0 dX12_exchange_16 rfl ?_
    obtain ⟨M9, c8, hF⟩ := hv_some hF
    refine jv_callV hC (st := []) [] (k_Md_keeps c8) mm_Md_keeps mi_Md_keeps ml_X12_344 dX12_exchange_17 g1 rfl (Nat.le_of_ble_eq_true rfl) rfl rfl (Nat.le_of_ble_eq_true rfl) ?_
    refine jv_nf 20 [] rfl rfl ?_
    refine jv_aload_n hC 0 dX12_exchange_20 rfl ?_
    refine jv_iload_n hC 1 dX12_exchange_21 rfl ?_
    obtain ⟨r12, M11, c10, hF⟩ := hb_some hF
    refine jv_callV hC (st := []) [.int v1] (k_Md_ownerOf c10) mm_Md_ownerOf mi_Md_ownerOf ml_X12_289 dX12_exchange_22 g1 rfl (Nat.le_of_ble_eq_true rfl) rfl rfl (Nat.le_of_ble_eq_true rfl) ?_
    refine jv_nf 25 [.int r12] rfl rfl ?_
    refine jv_istore_n hC [(3, .int r12), (0, .ref v0), (1, .int v1), (2, .int v2)] dX12_exchange_25 (by decide) rfl ?_
    refine jv_aload_n hC 1 dX12_exchange_26 rfl ?_
    obtain ⟨g13, hF⟩ := hg_some hF
    refine jv_getR hC fl_X12_99 dX12_exchange_27 rfl g1 g13 ?_
    refine jv_iconst hC dX12_exchange_30 c32_0 ?_
    refine jv_iload_n hC 2 dX12_exchange_31 rfl ?_
    refine jv_iadd hC dX12_exchange_32 ?_
    refine jv_aload_n hC 1 dX12_exchange_33 rfl ?_
    refine jv_pc 34 rfl ?_
    refine jv_iload_n hC 3 dX12_exchange_34 rfl ?_
    obtain ⟨r16, M15, c14, hF⟩ := hb_some hF
    refine jv_callV hC (st := [.int ((0 : Int32) + v1), .ref (M11.2.2 v0 20)]) [.int v2] (k_Md_ownerOf c14) mm_Md_ownerOf mi_Md_ownerOf ml_X12_289 dX12_exchange_35 g1 rfl (Nat.le_of_ble_eq_true rfl) rfl rfl (Nat.le_of_ble_eq_true rfl) ?_
    refine jv_nf 38 [.int r16, .int ((0 : Int32) + v1), .ref (M11.2.2 v0 20)] rfl rfl ?_
    obtain ⟨g17, hF⟩ := hg_some hF
    obtain ⟨n18, sn18, in18⟩ := hm_ib_ok g17
    refine jv_iastore hC dX12_exchange_38 sn18 in18 ?_
    obtain ⟨M19, e20, hF⟩ := hl_some hF
    refine jv_mem e20 ?_
    refine jv_aload_n hC 1 dX12_exchange_39 rfl ?_
    obtain ⟨g21, hF⟩ := hg_some hF
    refine jv_getR hC fl_X12_99 dX12_exchange_40 rfl g1 g21 ?_
    refine jv_iconst hC dX12_exchange_43 c32_0 ?_
    refine jv_iload_n hC 3 dX12_exchange_44 rfl ?_
    refine jv_iadd hC dX12_exchange_45 ?_
    refine jv_iload_n hC 0 dX12_exchange_46 rfl ?_
    refine jv_pc 47 rfl ?_
    obtain ⟨g22, hF⟩ := hg_some hF
    obtain ⟨n23, sn23, in23⟩ := hm_ib_ok g22
    refine jv_iastore hC dX12_exchange_47 sn23 in23 ?_
    obtain ⟨M24, e25, hF⟩ := hl_some hF
    refine jv_mem e25 ?_
    refine jv_iconst hC dX12_exchange_48 c32_1 ?_
    obtain ⟨rfl, rfl⟩ := hr_some hF
    exact jv_zret hC (by decide) dX12_exchange_49
  · have hF := hi_pos h7 hF
    refine jv_iconst hC dX12_exchange_14 c32_0 ?_
    obtain ⟨rfl, rfl⟩ := hr_some hF
    exact jv_zret hC (by decide) dX12_exchange_15
set_option maxRecDepth 100000 in
set_option maxHeartbeats 4000000 in
theorem s_Md_findFalls_6 {X : hm_X} {n : Nat} {S : hm_S} (hC : hm_C X RX12 cX12_findFalls 7 none 7 n S) {k25 : Nat → Int32 → Int32 → hm_M → Option hm_M} (hk25 : ∀ (v0 : Nat) (v1 : Int32) (v2 : Int32)  (M : hm_M) (M' : hm_M), k25 v0 v1 v2 M = some M' → hm_U X 25 [(0, .ref v0), (1, .int v1), (2, .int v2)] [] M (hm_Q X none M')) {k43 : Nat → Int32 → Int32 → Int32 → Int32 → hm_M → Option hm_M} (hk43 : ∀ (v0 : Nat) (v1 : Int32) (v2 : Int32) (v3 : Int32) (v4 : Int32)  (M : hm_M) (M' : hm_M), k43 v0 v1 v2 v3 v4 M = some M' → hm_U X 43 [(0, .ref v0), (1, .int v1), (2, .int v2), (3, .int v3), (4, .int v4)] [] M (hm_Q X none M')) {k58 : Nat → Int32 → Int32 → Int32 → Int32 → Int32 → Int32 → hm_M → Option hm_M} (hk58 : ∀ (v0 : Nat) (v1 : Int32) (v2 : Int32) (v3 : Int32) (v4 : Int32) (v5 : Int32) (v6 : Int32)  (M : hm_M) (M' : hm_M), k58 v0 v1 v2 v3 v4 v5 v6 M = some M' → hm_U X 58 [(0, .ref v0), (1, .int v1), (2, .int v2), (3, .int v3), (4, .int v4), (5, .int v5), (6, .int v6)] [] M (hm_Q X none M')) {v0 : Nat} {v1 : Int32} {v2 : Int32} {v3 : Int32} {v4 : Int32} {v6 : Int32} {s0 : Int32} {M : hm_M} {M' : hm_M} (hF : b_Md_findFalls_6 S k25 k43 k58 v0 v1 v2 v3 v4 v6 s0 M = some M') : hm_U X 97 [(0, .ref v0), (1, .int v1), (2, .int v2), (3, .int v3), (4, .int v4), (6, .int v6)] [.int s0] M (hm_Q X none M') := by
  unfold b_Md_findFalls_6 at hF
  refine jv_istore hC [(5, .int s0), (0, .ref v0), (1, .int v1), (2, .int v2), (3, .int v3), (4, .int v4), (6, .int v6)] dX12_findFalls_97 (by decide) rfl ?_
  refine jv_iinc hC 6 [(6, .int (v6 + (1 : Int32))), (5, .int s0), (0, .ref v0), (1, .int v1), (2, .int v2), (3, .int v3), (4, .int v4)] dX12_findFalls_99 rfl c32_1 (by decide) rfl ?_
  refine jv_goto hC 58 dX12_findFalls_102 (by decide) ?_
  refine jv_sub [2, 3, 4, 5, 6, 1, 0] (ls' := [(0, .ref v0), (1, .int v1), (2, .int v2), (3, .int v3), (4, .int v4), (5, .int s0), (6, .int (v6 + (1 : Int32)))]) rfl ?_
  exact jv_pc 58 rfl (hk58 _ _ _ _ _ _ _ _ _ hF)
set_option maxRecDepth 100000 in
set_option maxHeartbeats 4000000 in
theorem s_Md_findFalls_5 {X : hm_X} {n : Nat} {S : hm_S} (hC : hm_C X RX12 cX12_findFalls 7 none 7 n S) {k25 : Nat → Int32 → Int32 → hm_M → Option hm_M} (hk25 : ∀ (v0 : Nat) (v1 : Int32) (v2 : Int32)  (M : hm_M) (M' : hm_M), k25 v0 v1 v2 M = some M' → hm_U X 25 [(0, .ref v0), (1, .int v1), (2, .int v2)] [] M (hm_Q X none M')) {k43 : Nat → Int32 → Int32 → Int32 → Int32 → hm_M → Option hm_M} (hk43 : ∀ (v0 : Nat) (v1 : Int32) (v2 : Int32) (v3 : Int32) (v4 : Int32)  (M : hm_M) (M' : hm_M), k43 v0 v1 v2 v3 v4 M = some M' → hm_U X 43 [(0, .ref v0), (1, .int v1), (2, .int v2), (3, .int v3), (4, .int v4)] [] M (hm_Q X none M')) {k58 : Nat → Int32 → Int32 → Int32 → Int32 → Int32 → Int32 → hm_M → Option hm_M} (hk58 : ∀ (v0 : Nat) (v1 : Int32) (v2 : Int32) (v3 : Int32) (v4 : Int32) (v5 : Int32) (v6 : Int32)  (M : hm_M) (M' : hm_M), k58 v0 v1 v2 v3 v4 v5 v6 M = some M' → hm_U X 58 [(0, .ref v0), (1, .int v1), (2, .int v2), (3, .int v3), (4, .int v4), (5, .int v5), (6, .int v6)] [] M (hm_Q X none M')) {v0 : Nat} {v1 : Int32} {v2 : Int32} {v3 : Int32} {v4 : Int32} {v6 : Int32} {M : hm_M} {M' : hm_M} (hF : b_Md_findFalls_5 S k25 k43 k58 v0 v1 v2 v3 v4 v6 M = some M') : hm_U X 96 [(0, .ref v0), (1, .int v1), (2, .int v2), (3, .int v3), (4, .int v4), (6, .int v6)] [] M (hm_Q X none M') := by
  unfold b_Md_findFalls_5 at hF
  refine jv_iconst hC dX12_findFalls_96 c32_0 ?_
  exact jv_pc 97 rfl (s_Md_findFalls_6 hC hk25 hk43 hk58 hF)
set_option maxRecDepth 100000 in
set_option maxHeartbeats 4000000 in
theorem t_Md_findFalls_4 {X : hm_X} {n : Nat} {S : hm_S} (hC : hm_C X RX12 cX12_findFalls 7 none 7 n S) {k25 : Nat → Int32 → Int32 → hm_M → Option hm_M} (hk25 : ∀ (v0 : Nat) (v1 : Int32) (v2 : Int32)  (M : hm_M) (M' : hm_M), k25 v0 v1 v2 M = some M' → hm_U X 25 [(0, .ref v0), (1, .int v1), (2, .int v2)] [] M (hm_Q X none M')) {k43 : Nat → Int32 → Int32 → Int32 → Int32 → hm_M → Option hm_M} (hk43 : ∀ (v0 : Nat) (v1 : Int32) (v2 : Int32) (v3 : Int32) (v4 : Int32)  (M : hm_M) (M' : hm_M), k43 v0 v1 v2 v3 v4 M = some M' → hm_U X 43 [(0, .ref v0), (1, .int v1), (2, .int v2), (3, .int v3), (4, .int v4)] [] M (hm_Q X none M')) {k58 : Nat → Int32 → Int32 → Int32 → Int32 → Int32 → Int32 → hm_M → Option hm_M} (hk58 : ∀ (v0 : Nat) (v1 : Int32) (v2 : Int32) (v3 : Int32) (v4 : Int32) (v5 : Int32) (v6 : Int32)  (M : hm_M) (M' : hm_M), k58 v0 v1 v2 v3 v4 v5 v6 M = some M' → hm_U X 58 [(0, .ref v0), (1, .int v1), (2, .int v2), (3, .int v3), (4, .int v4), (5, .int v5), (6, .int v6)] [] M (hm_Q X none M')) {v0 : Nat} {v1 : Int32} {v2 : Int32} {v3 : Int32} {v4 : Int32} {v5 : Int32} {v6 : Int32} {M : hm_M} {M' : hm_M} (hF : b_Md_findFalls_4 S k25 k43 k58 v0 v1 v2 v3 v4 v5 v6 M = some M') : hm_U X 58 [(0, .ref v0), (1, .int v1), (2, .int v2), (3, .int v3), (4, .int v4), (5, .int v5), (6, .int v6)] [] M (hm_Q X none M') := by
  unfold b_Md_findFalls_4 at hF
  refine jv_iload hC 6 dX12_findFalls_58 rfl ?_
  refine jv_aload_n hC 0 dX12_findFalls_60 rfl ?_
  obtain ⟨g1, hF⟩ := hg_some hF
  obtain ⟨r4, M3, c2, hF⟩ := hb_some hF
  refine jv_callV hC (st := [.int v6]) [] (k_Md_panes c2) mm_Md_panes mi_Md_panes ml_X12_269 dX12_findFalls_61 g1 rfl (Nat.le_of_ble_eq_true rfl) rfl rfl (Nat.le_of_ble_eq_true rfl) ?_
  refine jv_nf 64 [.int r4, .int v6] rfl rfl ?_
  refine jv_icmp_ge hC 105 dX12_findFalls_64 (by decide) (fun h5 => ?_) (fun h5 => ?_)
  · have hF := hi_pos h5 hF
    refine jv_aload_n hC 0 dX12_findFalls_105 rfl ?_
    obtain ⟨g6, hF⟩ := hg_some hF
    refine jv_getR hC fl_X12_118 dX12_findFalls_106 rfl g1 g6 ?_
    refine jv_iload hC 4 dX12_findFalls_109 rfl ?_
    obtain ⟨g7, hF⟩ := hg_some hF
    obtain ⟨n8, sn8, in8⟩ := hm_ib_ok g7
    refine jv_iaload hC dX12_findFalls_111 sn8 in8 ?_
    refine jv_if_ne hC 159 dX12_findFalls_112 (by decide) (fun h9 => ?_) (fun h9 => ?_)
    · have hF := hi_neg h9 hF
      refine jv_iinc hC 4 [(4, .int (v4 + (1 : Int32))), (0, .ref v0), (1, .int v1), (2, .int v2), (3, .int v3), (5, .int v5), (6, .int v6)] dX12_findFalls_159 rfl c32_1 (by decide) rfl ?_
      refine jv_goto hC 43 dX12_findFalls_162 (by decide) ?_
      refine jv_sub [1, 2, 3, 4, 0] (ls' := [(0, .ref v0), (1, .int v1), (2, .int v2), (3, .int v3), (4, .int (v4 + (1 : Int32)))]) rfl ?_
      exact jv_pc 43 rfl (hk43 _ _ _ _ _ _ _ hF)
    · have hF := hi_pos h9 hF
      refine jv_iload hC 5 dX12_findFalls_115 rfl ?_
      refine jv_if_eq hC 159 dX12_findFalls_117 (by decide) (fun h10 => ?_) (fun h10 => ?_)
      · have hF := hi_pos h10 hF
        refine jv_iinc hC 4 [(4, .int (v4 + (1 : Int32))), (0, .ref v0), (1, .int v1), (2, .int v2), (3, .int v3), (5, .int v5), (6, .int v6)] dX12_findFalls_159 rfl c32_1 (by decide) rfl ?_
        refine jv_goto hC 43 dX12_findFalls_162 (by decide) ?_
        refine jv_sub [1, 2, 3, 4, 0] (ls' := [(0, .ref v0), (1, .int v1), (2, .int v2), (3, .int v3), (4, .int (v4 + (1 : Int32)))]) rfl ?_
        exact jv_pc 43 rfl (hk43 _ _ _ _ _ _ _ hF)
      · have hF := hi_neg h10 hF
        refine jv_aload_n hC 0 dX12_findFalls_120 rfl ?_
        refine jv_iload hC 4 dX12_findFalls_121 rfl ?_
        obtain ⟨r13, M12, c11, hF⟩ := hb_some hF
        refine jv_callV hC (st := []) [.int v4] (k_Md_rentsOf c11) mm_Md_rentsOf mi_Md_rentsOf ml_X12_323 dX12_findFalls_123 g1 rfl (Nat.le_of_ble_eq_true rfl) rfl rfl (Nat.le_of_ble_eq_true rfl) ?_
        refine jv_nf 126 [.int r13] rfl rfl ?_
        refine jv_aload_n hC 0 dX12_findFalls_126 rfl ?_
        obtain ⟨g14, hF⟩ := hg_some hF
        refine jv_getR hC fl_X12_81 dX12_findFalls_127 rfl g1 g14 ?_
        refine jv_iconst hC dX12_findFalls_130 c32_5 ?_
        refine jv_iconst hC dX12_findFalls_131 c32_2 ?_
        refine jv_iload hC 4 dX12_findFalls_132 rfl ?_
        refine jv_imul hC dX12_findFalls_134 ?_
        refine jv_iadd hC dX12_findFalls_135 ?_
        refine jv_pc 136 rfl ?_
        refine jv_iconst hC dX12_findFalls_136 c32_1 ?_
        refine jv_iadd hC dX12_findFalls_137 ?_
        obtain ⟨g15, hF⟩ := hg_some hF
        obtain ⟨n16, sn16, in16⟩ := hm_ib_ok g15
        refine jv_iaload hC dX12_findFalls_138 sn16 in16 ?_
        refine jv_icmp_ge hC 159 dX12_findFalls_139 (by decide) (fun h17 => ?_) (fun h17 => ?_)
        · have hF := hi_pos h17 hF
          refine jv_iinc hC 4 [(4, .int (v4 + (1 : Int32))), (0, .ref v0), (1, .int v1), (2, .int v2), (3, .int v3), (5, .int v5), (6, .int v6)] dX12_findFalls_159 rfl c32_1 (by decide) rfl ?_
          refine jv_goto hC 43 dX12_findFalls_162 (by decide) ?_
          refine jv_sub [1, 2, 3, 4, 0] (ls' := [(0, .ref v0), (1, .int v1), (2, .int v2), (3, .int v3), (4, .int (v4 + (1 : Int32)))]) rfl ?_
          exact jv_pc 43 rfl (hk43 _ _ _ _ _ _ _ hF)
        · have hF := hi_neg h17 hF
          refine jv_aload_n hC 0 dX12_findFalls_142 rfl ?_
          obtain ⟨g18, hF⟩ := hg_some hF
          refine jv_getR hC fl_X12_118 dX12_findFalls_143 rfl g1 g18 ?_
          refine jv_iload hC 4 dX12_findFalls_146 rfl ?_
          refine jv_iload_n hC 1 dX12_findFalls_148 rfl ?_
          obtain ⟨g19, hF⟩ := hg_some hF
          obtain ⟨n20, sn20, in20⟩ := hm_ib_ok g19
          refine jv_iastore hC dX12_findFalls_149 sn20 in20 ?_
          obtain ⟨M21, e22, hF⟩ := hl_some hF
          refine jv_mem e22 ?_
          refine jv_iload_n hC 3 dX12_findFalls_150 rfl ?_
          refine jv_iconst hC dX12_findFalls_151 c32_1 ?_
          refine jv_pc 152 rfl ?_
          refine jv_iload hC 4 dX12_findFalls_152 rfl ?_
          refine jv_ishl hC dX12_findFalls_154 ?_
          refine jv_ior hC dX12_findFalls_155 ?_
          obtain ⟨x23, e24, hF⟩ := hl_some hF
          refine jv_topI e24 ?_
          refine jv_istore_n hC [(3, .int x23), (0, .ref v0), (1, .int v1), (2, .int v2), (4, .int v4), (5, .int v5), (6, .int v6)] dX12_findFalls_156 (by decide) rfl ?_
          refine jv_sub [0, 1, 2, 4] (ls' := [(3, .int x23), (0, .ref v0), (1, .int v1), (4, .int v4)]) rfl ?_
          refine jv_iconst hC dX12_findFalls_157 c32_1 ?_
          refine jv_istore_n hC [(2, .int (1 : Int32)), (3, .int x23), (0, .ref v0), (1, .int v1), (4, .int v4)] dX12_findFalls_158 (by decide) rfl ?_
          refine jv_iinc hC 4 [(4, .int (v4 + (1 : Int32))), (2, .int (1 : Int32)), (3, .int x23), (0, .ref v0), (1, .int v1)] dX12_findFalls_159 rfl c32_1 (by decide) rfl ?_
          refine jv_goto hC 43 dX12_findFalls_162 (by decide) ?_
          refine jv_sub [3, 4, 1, 2, 0] (ls' := [(0, .ref v0), (1, .int v1), (2, .int (1 : Int32)), (3, .int x23), (4, .int (v4 + (1 : Int32)))]) rfl ?_
          exact jv_pc 43 rfl (hk43 _ _ _ _ _ _ _ hF)
  · have hF := hi_neg h5 hF
    refine jv_iload hC 5 dX12_findFalls_67 rfl ?_
    refine jv_if_ne hC 92 dX12_findFalls_69 (by decide) (fun h25 => ?_) (fun h25 => ?_)
    · have hF := hi_neg h25 hF
      refine jv_iconst hC dX12_findFalls_92 c32_1 ?_
      refine jv_goto hC 97 dX12_findFalls_93 (by decide) ?_
      refine jv_sub [0, 1, 2, 3, 4, 6] (ls' := [(0, .ref v0), (1, .int v1), (2, .int v2), (3, .int v3), (4, .int v4), (6, .int v6)]) rfl ?_
      exact jv_pc 97 rfl (s_Md_findFalls_6 hC hk25 hk43 hk58 hF)
    · have hF := hi_pos h25 hF
      refine jv_aload_n hC 0 dX12_findFalls_72 rfl ?_
      refine jv_iload hC 6 dX12_findFalls_73 rfl ?_
      obtain ⟨r28, M27, c26, hF⟩ := hb_some hF
      refine jv_callV hC (st := []) [.int v6] (k_Md_ownerOf c26) mm_Md_ownerOf mi_Md_ownerOf ml_X12_289 dX12_findFalls_75 g1 rfl (Nat.le_of_ble_eq_true rfl) rfl rfl (Nat.le_of_ble_eq_true rfl) ?_
      refine jv_nf 78 [.int r28] rfl rfl ?_
      refine jv_iload hC 4 dX12_findFalls_78 rfl ?_
      refine jv_icmp_ne hC 96 dX12_findFalls_80 (by decide) (fun h29 => ?_) (fun h29 => ?_)
      · have hF := hi_neg h29 hF
        refine jv_sub [0, 1, 2, 3, 4, 6] (ls' := [(0, .ref v0), (1, .int v1), (2, .int v2), (3, .int v3), (4, .int v4), (6, .int v6)]) rfl ?_
        exact jv_pc 96 rfl (s_Md_findFalls_5 hC hk25 hk43 hk58 hF)
      · have hF := hi_pos h29 hF
        refine jv_aload_n hC 0 dX12_findFalls_83 rfl ?_
        refine jv_iload hC 6 dX12_findFalls_84 rfl ?_
        obtain ⟨r32, M31, c30, hF⟩ := hb_some hF
        refine jv_callV hC (st := []) [.int v6] (k_Md_isBroken c30) mm_Md_isBroken mi_Md_isBroken ml_X12_283 dX12_findFalls_86 g1 rfl (Nat.le_of_ble_eq_true rfl) rfl rfl (Nat.le_of_ble_eq_true rfl) ?_
        refine jv_nf 89 [.int r32] rfl rfl ?_
        refine jv_if_ne hC 96 dX12_findFalls_89 (by decide) (fun h33 => ?_) (fun h33 => ?_)
        · have hF := hi_neg h33 hF
          refine jv_sub [0, 1, 2, 3, 4, 6] (ls' := [(0, .ref v0), (1, .int v1), (2, .int v2), (3, .int v3), (4, .int v4), (6, .int v6)]) rfl ?_
          exact jv_pc 96 rfl (s_Md_findFalls_5 hC hk25 hk43 hk58 hF)
        · have hF := hi_pos h33 hF
          refine jv_iconst hC dX12_findFalls_92 c32_1 ?_
          refine jv_goto hC 97 dX12_findFalls_93 (by decide) ?_
          refine jv_sub [0, 1, 2, 3, 4, 6] (ls' := [(0, .ref v0), (1, .int v1), (2, .int v2), (3, .int v3), (4, .int v4), (6, .int v6)]) rfl ?_
          exact jv_pc 97 rfl (s_Md_findFalls_6 hC hk25 hk43 hk58 hF)
theorem s_Md_findFalls_4 {X : hm_X} {n : Nat} {S : hm_S} (hC : hm_C X RX12 cX12_findFalls 7 none 7 n S) {k25 : Nat → Int32 → Int32 → hm_M → Option hm_M} (hk25 : ∀ (v0 : Nat) (v1 : Int32) (v2 : Int32)  (M : hm_M) (M' : hm_M), k25 v0 v1 v2 M = some M' → hm_U X 25 [(0, .ref v0), (1, .int v1), (2, .int v2)] [] M (hm_Q X none M')) {k43 : Nat → Int32 → Int32 → Int32 → Int32 → hm_M → Option hm_M} (hk43 : ∀ (v0 : Nat) (v1 : Int32) (v2 : Int32) (v3 : Int32) (v4 : Int32)  (M : hm_M) (M' : hm_M), k43 v0 v1 v2 v3 v4 M = some M' → hm_U X 43 [(0, .ref v0), (1, .int v1), (2, .int v2), (3, .int v3), (4, .int v4)] [] M (hm_Q X none M')) : ∀ (q : Nat) (v0 : Nat) (v1 : Int32) (v2 : Int32) (v3 : Int32) (v4 : Int32) (v5 : Int32) (v6 : Int32) (M : hm_M) (M' : hm_M), f_Md_findFalls_4 S k25 k43 q v0 v1 v2 v3 v4 v5 v6 M = some M' → hm_U X 58 [(0, .ref v0), (1, .int v1), (2, .int v2), (3, .int v3), (4, .int v4), (5, .int v5), (6, .int v6)] [] M (hm_Q X none M') := by
  intro q
  induction q with
  | zero => intro v0 v1 v2 v3 v4 v5 v6 M M' hF; cases hF
  | succ q ih => intro v0 v1 v2 v3 v4 v5 v6 M M' hF; exact t_Md_findFalls_4 hC hk25 hk43 ih hF
set_option maxRecDepth 100000 in
set_option maxHeartbeats 4000000 in
theorem t_Md_findFalls_3 {X : hm_X} {n : Nat} {S : hm_S} (hC : hm_C X RX12 cX12_findFalls 7 none 7 n S) {k25 : Nat → Int32 → Int32 → hm_M → Option hm_M} (hk25 : ∀ (v0 : Nat) (v1 : Int32) (v2 : Int32)  (M : hm_M) (M' : hm_M), k25 v0 v1 v2 M = some M' → hm_U X 25 [(0, .ref v0), (1, .int v1), (2, .int v2)] [] M (hm_Q X none M')) {k43 : Nat → Int32 → Int32 → Int32 → Int32 → hm_M → Option hm_M} (hk43 : ∀ (v0 : Nat) (v1 : Int32) (v2 : Int32) (v3 : Int32) (v4 : Int32)  (M : hm_M) (M' : hm_M), k43 v0 v1 v2 v3 v4 M = some M' → hm_U X 43 [(0, .ref v0), (1, .int v1), (2, .int v2), (3, .int v3), (4, .int v4)] [] M (hm_Q X none M')) {v0 : Nat} {v1 : Int32} {v2 : Int32} {v3 : Int32} {v4 : Int32} {M : hm_M} {M' : hm_M} (hF : b_Md_findFalls_3 S k25 k43 v0 v1 v2 v3 v4 M = some M') : hm_U X 43 [(0, .ref v0), (1, .int v1), (2, .int v2), (3, .int v3), (4, .int v4)] [] M (hm_Q X none M') := by
  unfold b_Md_findFalls_3 at hF
  refine jv_iload hC 4 dX12_findFalls_43 rfl ?_
  refine jv_aload_n hC 0 dX12_findFalls_45 rfl ?_
  obtain ⟨g1, hF⟩ := hg_some hF
  obtain ⟨r4, M3, c2, hF⟩ := hb_some hF
  refine jv_callV hC (st := [.int v4]) [] (k_Md_guilds c2) mm_Md_guilds mi_Md_guilds ml_X12_266 dX12_findFalls_46 g1 rfl (Nat.le_of_ble_eq_true rfl) rfl rfl (Nat.le_of_ble_eq_true rfl) ?_
  refine jv_nf 49 [.int r4, .int v4] rfl rfl ?_
  refine jv_icmp_ge hC 165 dX12_findFalls_49 (by decide) (fun h5 => ?_) (fun h5 => ?_)
  · have hF := hi_pos h5 hF
    refine jv_aload_n hC 0 dX12_findFalls_165 rfl ?_
    refine jv_dup hC dX12_findFalls_166 rfl ?_
    refine jv_getI hC fl_X12_286 dX12_findFalls_167 rfl g1 ?_
    refine jv_iload_n hC 3 dX12_findFalls_170 rfl ?_
    refine jv_ior hC dX12_findFalls_171 ?_
    refine jv_putI hC fl_X12_286 dX12_findFalls_172 rfl rfl rfl g1 ?_
    obtain ⟨M6, e7, hF⟩ := hl_some hF
    refine jv_mem e7 ?_
    refine jv_goto hC 25 dX12_findFalls_175 (by decide) ?_
    refine jv_sub [0, 1, 2] (ls' := [(0, .ref v0), (1, .int v1), (2, .int v2)]) rfl ?_
    exact jv_pc 25 rfl (hk25 _ _ _ _ _ hF)
  · have hF := hi_neg h5 hF
    refine jv_iconst hC dX12_findFalls_52 c32_0 ?_
    refine jv_istore hC [(5, .int (0 : Int32)), (0, .ref v0), (1, .int v1), (2, .int v2), (3, .int v3), (4, .int v4)] dX12_findFalls_53 (by decide) rfl ?_
    refine jv_iconst hC dX12_findFalls_55 c32_0 ?_
    refine jv_istore hC [(6, .int (0 : Int32)), (5, .int (0 : Int32)), (0, .ref v0), (1, .int v1), (2, .int v2), (3, .int v3), (4, .int v4)] dX12_findFalls_56 (by decide) rfl ?_
    refine jv_sub [2, 3, 4, 5, 6, 1, 0] (ls' := [(0, .ref v0), (1, .int v1), (2, .int v2), (3, .int v3), (4, .int v4), (5, .int (0 : Int32)), (6, .int (0 : Int32))]) rfl ?_
    exact jv_pc 58 rfl (s_Md_findFalls_4 hC hk25 hk43 hN _ _ _ _ _ _ _ _ _ hF)
theorem s_Md_findFalls_3 {X : hm_X} {n : Nat} {S : hm_S} (hC : hm_C X RX12 cX12_findFalls 7 none 7 n S) {k25 : Nat → Int32 → Int32 → hm_M → Option hm_M} (hk25 : ∀ (v0 : Nat) (v1 : Int32) (v2 : Int32)  (M : hm_M) (M' : hm_M), k25 v0 v1 v2 M = some M' → hm_U X 25 [(0, .ref v0), (1, .int v1), (2, .int v2)] [] M (hm_Q X none M')) : ∀ (q : Nat) (v0 : Nat) (v1 : Int32) (v2 : Int32) (v3 : Int32) (v4 : Int32) (M : hm_M) (M' : hm_M), f_Md_findFalls_3 S k25 q v0 v1 v2 v3 v4 M = some M' → hm_U X 43 [(0, .ref v0), (1, .int v1), (2, .int v2), (3, .int v3), (4, .int v4)] [] M (hm_Q X none M') := by
  intro q
  induction q with
  | zero => intro v0 v1 v2 v3 v4 M M' hF; cases hF
  | succ q ih => intro v0 v1 v2 v3 v4 M M' hF; exact t_Md_findFalls_3 hC hk25 ih hF
set_option maxRecDepth 100000 in
set_option maxHeartbeats 4000000 in
theorem t_Md_findFalls_2 {X : hm_X} {n : Nat} {S : hm_S} (hC : hm_C X RX12 cX12_findFalls 7 none 7 n S) {k25 : Nat → Int32 → Int32 → hm_M → Option hm_M} (hk25 : ∀ (v0 : Nat) (v1 : Int32) (v2 : Int32)  (M : hm_M) (M' : hm_M), k25 v0 v1 v2 M = some M' → hm_U X 25 [(0, .ref v0), (1, .int v1), (2, .int v2)] [] M (hm_Q X none M')) {v0 : Nat} {v1 : Int32} {v2 : Int32} {M : hm_M} {M' : hm_M} (hF : b_Md_findFalls_2 S k25 v0 v1 v2 M = some M') : hm_U X 25 [(0, .ref v0), (1, .int v1), (2, .int v2)] [] M (hm_Q X none M') := by
  unfold b_Md_findFalls_2 at hF
  refine jv_iload_n hC 2 dX12_findFalls_25 rfl ?_
  refine jv_if_eq hC 178 dX12_findFalls_26 (by decide) (fun h1 => ?_) (fun h1 => ?_)
  · have hF := hi_pos h1 hF
    refine jv_aload_n hC 0 dX12_findFalls_178 rfl ?_
    refine jv_iconst hC dX12_findFalls_179 c32_0 ?_
    obtain ⟨g2, hF⟩ := hg_some hF
    refine jv_putI hC fl_X12_286 dX12_findFalls_180 rfl rfl rfl g2 ?_
    obtain ⟨M3, e4, hF⟩ := hl_some hF
    refine jv_mem e4 ?_
    obtain rfl := hr_somev hF
    exact jv_vret hC dX12_findFalls_183
  · have hF := hi_neg h1 hF
    refine jv_iconst hC dX12_findFalls_29 c32_0 ?_
    refine jv_istore_n hC [(2, .int (0 : Int32)), (0, .ref v0), (1, .int v1)] dX12_findFalls_30 (by decide) rfl ?_
    refine jv_iinc hC 2 [(1, .int (v1 + (1 : Int32))), (2, .int (0 : Int32)), (0, .ref v0)] dX12_findFalls_31 rfl c32_1 (by decide) rfl ?_
    refine jv_aload_n hC 2 dX12_findFalls_34 rfl ?_
    obtain ⟨g5, hF⟩ := hg_some hF
    obtain ⟨M7, c6, hF⟩ := hv_some hF
    refine jv_callV hC (st := []) [] (k_Md_findYields c6) mm_Md_findYields mi_Md_findYields ml_X12_320 dX12_findFalls_35 g5 rfl (Nat.le_of_ble_eq_true rfl) rfl rfl (Nat.le_of_ble_eq_true rfl) ?_
    refine jv_nf 38 [] rfl rfl ?_
    refine jv_iconst hC dX12_findFalls_38 c32_0 ?_
    refine jv_istore_n hC [(3, .int (0 : Int32)), (1, .int (v1 + (1 : Int32))), (2, .int (0 : Int32)), (0, .ref v0)] dX12_findFalls_39 (by decide) rfl ?_
    refine jv_iconst hC dX12_findFalls_40 c32_0 ?_
    refine jv_istore hC [(4, .int (0 : Int32)), (3, .int (0 : Int32)), (1, .int (v1 + (1 : Int32))), (2, .int (0 : Int32)), (0, .ref v0)] dX12_findFalls_41 (by decide) rfl ?_
    refine jv_sub [4, 2, 3, 1, 0] (ls' := [(0, .ref v0), (1, .int (v1 + (1 : Int32))), (2, .int (0 : Int32)), (3, .int (0 : Int32)), (4, .int (0 : Int32))]) rfl ?_
    exact jv_pc 43 rfl (s_Md_findFalls_3 hC hk25 hN _ _ _ _ _ _ _ hF)
theorem s_Md_findFalls_2 {X : hm_X} {n : Nat} {S : hm_S} (hC : hm_C X RX12 cX12_findFalls 7 none 7 n S) : ∀ (q : Nat) (v0 : Nat) (v1 : Int32) (v2 : Int32) (M : hm_M) (M' : hm_M), f_Md_findFalls_2 S  q v0 v1 v2 M = some M' → hm_U X 25 [(0, .ref v0), (1, .int v1), (2, .int v2)] [] M (hm_Q X none M') := by
  intro q
  induction q with
  | zero => intro v0 v1 v2 M M' hF; cases hF
  | succ q ih => intro v0 v1 v2 M M' hF; exact t_Md_findFalls_2 hC ih hF
set_option maxRecDepth 100000 in
set_option maxHeartbeats 4000000 in
theorem t_Md_findFalls_1 {X : hm_X} {n : Nat} {S : hm_S} (hC : hm_C X RX12 cX12_findFalls 7 none 7 n S) {k2 : Nat → Int32 → hm_M → Option hm_M} (hk2 : ∀ (v0 : Nat) (v1 : Int32)  (M : hm_M) (M' : hm_M), k2 v0 v1 M = some M' → hm_U X 2 [(0, .ref v0), (1, .int v1)] [] M (hm_Q X none M')) {v0 : Nat} {v1 : Int32} {M : hm_M} {M' : hm_M} (hF : b_Md_findFalls_1 S k2 v0 v1 M = some M') : hm_U X 2 [(0, .ref v0), (1, .int v1)] [] M (hm_Q X none M') := by
  unfold b_Md_findFalls_1 at hF
  refine jv_iload_n hC 1 dX12_findFalls_2 rfl ?_
  refine jv_bipush hC dX12_findFalls_3 c8_6 ?_
  refine jv_icmp_ge hC 21 dX12_findFalls_5 (by decide) (fun h1 => ?_) (fun h1 => ?_)
  · have hF := hi_pos h1 hF
    refine jv_iconst hC dX12_findFalls_21 c32_0 ?_
    refine jv_istore_n hC [(1, .int (0 : Int32)), (0, .ref v0)] dX12_findFalls_22 (by decide) rfl ?_
    refine jv_iconst hC dX12_findFalls_23 c32_1 ?_
    refine jv_istore_n hC [(2, .int (1 : Int32)), (1, .int (0 : Int32)), (0, .ref v0)] dX12_findFalls_24 (by decide) rfl ?_
    refine jv_sub [2, 1, 0] (ls' := [(0, .ref v0), (1, .int (0 : Int32)), (2, .int (1 : Int32))]) rfl ?_
    exact jv_pc 25 rfl (s_Md_findFalls_2 hC hN _ _ _ _ _ hF)
  · have hF := hi_neg h1 hF
    refine jv_aload_n hC 0 dX12_findFalls_8 rfl ?_
    obtain ⟨g2, hF⟩ := hg_some hF
    obtain ⟨g3, hF⟩ := hg_some hF
    refine jv_getR hC fl_X12_118 dX12_findFalls_9 rfl g2 g3 ?_
    refine jv_iload_n hC 1 dX12_findFalls_12 rfl ?_
    refine jv_iconst hC dX12_findFalls_13 c32_0 ?_
    obtain ⟨g4, hF⟩ := hg_some hF
    obtain ⟨n5, sn5, in5⟩ := hm_ib_ok g4
    refine jv_iastore hC dX12_findFalls_14 sn5 in5 ?_
    obtain ⟨M6, e7, hF⟩ := hl_some hF
    refine jv_mem e7 ?_
    refine jv_iinc hC 1 [(1, .int (v1 + (1 : Int32))), (0, .ref v0)] dX12_findFalls_15 rfl c32_1 (by decide) rfl ?_
    refine jv_goto hC 2 dX12_findFalls_18 (by decide) ?_
    refine jv_sub [1, 0] (ls' := [(0, .ref v0), (1, .int (v1 + (1 : Int32)))]) rfl ?_
    exact jv_pc 2 rfl (hk2 _ _ _ _ hF)
theorem s_Md_findFalls_1 {X : hm_X} {n : Nat} {S : hm_S} (hC : hm_C X RX12 cX12_findFalls 7 none 7 n S) : ∀ (q : Nat) (v0 : Nat) (v1 : Int32) (M : hm_M) (M' : hm_M), f_Md_findFalls_1 S  q v0 v1 M = some M' → hm_U X 2 [(0, .ref v0), (1, .int v1)] [] M (hm_Q X none M') := by
  intro q
  induction q with
  | zero => intro v0 v1 M M' hF; cases hF
  | succ q ih => intro v0 v1 M M' hF; exact t_Md_findFalls_1 hC ih hF
set_option maxRecDepth 100000 in
set_option maxHeartbeats 4000000 in
theorem k_Md_findFalls {n : Nat} {S : hm_S} {v0 : Nat} {M : hm_M} {M' : hm_M} (hF : f_Md_findFalls S v0 M = some M') : hm_KM yX12_findFalls cX12_findFalls 7 none 7 n S [.ref v0] M none M' := by
  refine hm_enter mm_Md_findFalls (Nat.le_of_ble_eq_true rfl) (fun X hC => ?_)
  show hm_U X 0 [(0, .ref v0)] [] M _
  unfold f_Md_findFalls at hF
  refine jv_iconst hC dX12_findFalls_0 c32_0 ?_
  refine jv_istore_n hC [(1, .int (0 : Int32)), (0, .ref v0)] dX12_findFalls_1 (by decide) rfl ?_
  refine jv_sub [1, 0] (ls' := [(0, .ref v0), (1, .int (0 : Int32))]) rfl ?_
  exact jv_pc 2 rfl (s_Md_findFalls_1 hC hN _ _ _ _ hF)
set_option maxRecDepth 100000 in
set_option maxHeartbeats 4000000 in
theorem s_Md_fallen_2 {X : hm_X} {n : Nat} {S : hm_S} (hC : hm_C X RX12 cX12_fallen 3 (some .int) 8 n S) {k13 : Nat → Int32 → Int32 → hm_M → Option (Int32 × hm_M)} (hk13 : ∀ (v0 : Nat) (v1 : Int32) (v2 : Int32)  (M : hm_M) (r : Int32) (M' : hm_M), k13 v0 v1 v2 M = some (r, M') → hm_U X 13 [(0, .ref v0), (1, .int v1), (2, .int v2)] [] M (hm_Q X (some (.int r)) M')) {v0 : Nat} {v2 : Int32} {s0 : Int32} {s1 : Int32} {M : hm_M} {r : Int32} {M' : hm_M} (hF : b_Md_fallen_2 S k13 v0 v2 s0 s1 M = some (r, M')) : hm_U X 38 [(0, .ref v0), (2, .int v2)] [.int s0, .int s1] M (hm_Q X (some (.int r)) M') := by
  unfold b_Md_fallen_2 at hF
  refine jv_ior hC dX12_fallen_38 ?_
  obtain ⟨x1, e2, hF⟩ := hl_some hF
  refine jv_topI e2 ?_
  refine jv_istore_n hC [(1, .int x1), (0, .ref v0), (2, .int v2)] dX12_fallen_39 (by decide) rfl ?_
  refine jv_iinc hC 2 [(2, .int (v2 + (1 : Int32))), (1, .int x1), (0, .ref v0)] dX12_fallen_40 rfl c32_1 (by decide) rfl ?_
  refine jv_goto hC 13 dX12_fallen_43 (by decide) ?_
  refine jv_sub [2, 1, 0] (ls' := [(0, .ref v0), (1, .int x1), (2, .int (v2 + (1 : Int32)))]) rfl ?_
  exact jv_pc 13 rfl (hk13 _ _ _ _ _ _ hF)
set_option maxRecDepth 100000 in
set_option maxHeartbeats 4000000 in
theorem t_Md_fallen_1 {X : hm_X} {n : Nat} {S : hm_S} (hC : hm_C X RX12 cX12_fallen 3 (some .int) 8 n S) {k13 : Nat → Int32 → Int32 → hm_M → Option (Int32 × hm_M)} (hk13 : ∀ (v0 : Nat) (v1 : Int32) (v2 : Int32)  (M : hm_M) (r : Int32) (M' : hm_M), k13 v0 v1 v2 M = some (r, M') → hm_U X 13 [(0, .ref v0), (1, .int v1), (2, .int v2)] [] M (hm_Q X (some (.int r)) M')) {v0 : Nat} {v1 : Int32} {v2 : Int32} {M : hm_M} {r : Int32} {M' : hm_M} (hF : b_Md_fallen_1 S k13 v0 v1 v2 M = some (r, M')) : hm_U X 13 [(0, .ref v0), (1, .int v1), (2, .int v2)] [] M (hm_Q X (some (.int r)) M') := by
  unfold b_Md_fallen_1 at hF
  refine jv_iload_n hC 2 dX12_fallen_13 rfl ?_
  refine jv_aload_n hC 0 dX12_fallen_14 rfl ?_
  obtain ⟨g1, hF⟩ := hg_some hF
  obtain ⟨r4, M3, c2, hF⟩ := hb_some hF
  refine jv_callV hC (st := [.int v2]) [] (k_Md_guilds c2) mm_Md_guilds mi_Md_guilds ml_X12_266 dX12_fallen_15 g1 rfl (Nat.le_of_ble_eq_true rfl) rfl rfl (Nat.le_of_ble_eq_true rfl) ?_
  refine jv_nf 18 [.int r4, .int v2] rfl rfl ?_
  refine jv_icmp_ge hC 46 dX12_fallen_18 (by decide) (fun h5 => ?_) (fun h5 => ?_)
  · have hF := hi_pos h5 hF
    refine jv_iload_n hC 1 dX12_fallen_46 rfl ?_
    obtain ⟨rfl, rfl⟩ := hr_some hF
    exact jv_iret hC dX12_fallen_47
  · have hF := hi_neg h5 hF
    refine jv_iload_n hC 1 dX12_fallen_21 rfl ?_
    refine jv_aload_n hC 0 dX12_fallen_22 rfl ?_
    obtain ⟨g6, hF⟩ := hg_some hF
    refine jv_getR hC fl_X12_118 dX12_fallen_23 rfl g1 g6 ?_
    refine jv_iload_n hC 2 dX12_fallen_26 rfl ?_
    obtain ⟨g7, hF⟩ := hg_some hF
    obtain ⟨n8, sn8, in8⟩ := hm_ib_ok g7
    refine jv_iaload hC dX12_fallen_27 sn8 in8 ?_
    refine jv_if_le hC 37 dX12_fallen_28 (by decide) (fun h9 => ?_) (fun h9 => ?_)
    · have hF := hi_pos h9 hF
      refine jv_iconst hC dX12_fallen_37 c32_0 ?_
      refine jv_sub [0, 2] (ls' := [(0, .ref v0), (2, .int v2)]) rfl ?_
      exact jv_pc 38 rfl (s_Md_fallen_2 hC hk13 hF)
    · have hF := hi_neg h9 hF
      refine jv_iconst hC dX12_fallen_31 c32_1 ?_
      refine jv_iload_n hC 2 dX12_fallen_32 rfl ?_
      refine jv_ishl hC dX12_fallen_33 ?_
      refine jv_goto hC 38 dX12_fallen_34 (by decide) ?_
      refine jv_sub [0, 2] (ls' := [(0, .ref v0), (2, .int v2)]) rfl ?_
      exact jv_pc 38 rfl (s_Md_fallen_2 hC hk13 hF)
theorem s_Md_fallen_1 {X : hm_X} {n : Nat} {S : hm_S} (hC : hm_C X RX12 cX12_fallen 3 (some .int) 8 n S) : ∀ (q : Nat) (v0 : Nat) (v1 : Int32) (v2 : Int32) (M : hm_M) (r : Int32) (M' : hm_M), f_Md_fallen_1 S  q v0 v1 v2 M = some (r, M') → hm_U X 13 [(0, .ref v0), (1, .int v1), (2, .int v2)] [] M (hm_Q X (some (.int r)) M') := by
  intro q
  induction q with
  | zero => intro v0 v1 v2 M r M' hF; cases hF
  | succ q ih => intro v0 v1 v2 M r M' hF; exact t_Md_fallen_1 hC ih hF
set_option maxRecDepth 100000 in
set_option maxHeartbeats 4000000 in
theorem k_Md_fallen {n : Nat} {S : hm_S} {v0 : Nat} {M : hm_M} {r : Int32} {M' : hm_M} (hF : f_Md_fallen S v0 M = some (r, M')) : hm_KM yX12_fallen cX12_fallen 3 (some .int) 8 n S [.ref v0] M (some (.int r)) M' := by
  refine hm_enter mm_Md_fallen (Nat.le_of_ble_eq_true rfl) (fun X hC => ?_)
  show hm_U X 0 [(0, .ref v0)] [] M _
  unfold f_Md_fallen at hF
  refine jv_aload_n hC 0 dX12_fallen_0 rfl ?_
  refine jv_iconst hC dX12_fallen_1 c32_0 ?_
  obtain ⟨g1, hF⟩ := hg_some hF
  refine jv_putI hC fl_X12_1 dX12_fallen_2 rfl rfl rfl g1 ?_
  obtain ⟨M2, e3, hF⟩ := hl_some hF
  refine jv_mem e3 ?_
  refine jv_aload_n hC 0 dX12_fallen_5 rfl ?_
  obtain ⟨M5, c4, hF⟩ := hv_some hF
  refine jv_callV hC (st := []) [] (k_Md_findFalls c4) mm_Md_findFalls mi_Md_findFalls ml_X12_347 dX12_fallen_6 g1 rfl (Nat.le_of_ble_eq_true rfl) rfl rfl (Nat.le_of_ble_eq_true rfl) ?_
  refine jv_nf 9 [] rfl rfl ?_
  refine jv_iconst hC dX12_fallen_9 c32_0 ?_
  refine jv_istore_n hC [(1, .int (0 : Int32)), (0, .ref v0)] dX12_fallen_10 (by decide) rfl ?_
  refine jv_iconst hC dX12_fallen_11 c32_0 ?_
  refine jv_istore_n hC [(2, .int (0 : Int32)), (1, .int (0 : Int32)), (0, .ref v0)] dX12_fallen_12 (by decide) rfl ?_
  refine jv_sub [2, 1, 0] (ls' := [(0, .ref v0), (1, .int (0 : Int32)), (2, .int (0 : Int32))]) rfl ?_
  exact jv_pc 13 rfl (s_Md_fallen_1 hC hN _ _ _ _ _ _ hF)
set_option maxRecDepth 100000 in
set_option maxHeartbeats 4000000 in
theorem k_Md_falls {n : Nat} {S : hm_S} {v0 : Nat} {v1 : Int32} {M : hm_M} {r : Int32} {M' : hm_M} (hF : f_Md_falls S v0 v1 M = some (r, M')) : hm_KM yX12_falls cX12_falls 2 (some .int) 8 n S [.ref v0, .int v1] M (some (.int r)) M' := by
  refine hm_enter mm_Md_falls (Nat.le_of_ble_eq_true rfl) (fun X hC => ?_)
  show hm_U X 0 [(0, .ref v0), (1, .int v1)] [] M _
  unfold f_Md_falls at hF
  refine jv_aload_n hC 0 dX12_falls_0 rfl ?_
  refine jv_iconst hC dX12_falls_1 c32_0 ?_
  obtain ⟨g1, hF⟩ := hg_some hF
  refine jv_putI hC fl_X12_1 dX12_falls_2 rfl rfl rfl g1 ?_
  obtain ⟨M2, e3, hF⟩ := hl_some hF
  refine jv_mem e3 ?_
  refine jv_aload_n hC 0 dX12_falls_5 rfl ?_
  refine jv_iload_n hC 1 dX12_falls_6 rfl ?_
  obtain ⟨r6, M5, c4, hF⟩ := hb_some hF
  refine jv_callV hC (st := []) [.int v1] (k_Md_isGuild c4) mm_Md_isGuild mi_Md_isGuild ml_X12_311 dX12_falls_7 g1 rfl (Nat.le_of_ble_eq_true rfl) rfl rfl (Nat.le_of_ble_eq_true rfl) ?_
  refine jv_nf 10 [.int r6] rfl rfl ?_
  refine jv_if_ne hC 15 dX12_falls_10 (by decide) (fun h7 => ?_) (fun h7 => ?_)
  · have hF := hi_neg h7 hF
    refine jv_aload_n hC 0 dX12_falls_15 rfl ?_
    obtain ⟨M9, c8, hF⟩ := hv_some hF
    refine jv_callV hC (st := []) [] (k_Md_findFalls c8) mm_Md_findFalls mi_Md_findFalls ml_X12_347 dX12_falls_16 g1 rfl (Nat.le_of_ble_eq_true rfl) rfl rfl (Nat.le_of_ble_eq_true rfl) ?_
    refine jv_nf 19 [] rfl rfl ?_
    refine jv_aload_n hC 0 dX12_falls_19 rfl ?_
    obtain ⟨g10, hF⟩ := hg_some hF
    refine jv_getR hC fl_X12_118 dX12_falls_20 rfl g1 g10 ?_
    refine jv_iload_n hC 1 dX12_falls_23 rfl ?_
    obtain ⟨g11, hF⟩ := hg_some hF
    obtain ⟨n12, sn12, in12⟩ := hm_ib_ok g11
    refine jv_iaload hC dX12_falls_24 sn12 in12 ?_
    obtain ⟨rfl, rfl⟩ := hr_some hF
    exact jv_iret hC dX12_falls_25
  · have hF := hi_pos h7 hF
    refine jv_iconst hC dX12_falls_13 c32_m1 ?_
    obtain ⟨rfl, rfl⟩ := hr_some hF
    exact jv_iret hC dX12_falls_14
set_option maxRecDepth 100000 in
set_option maxHeartbeats 4000000 in
theorem s_Md_lay_2 {X : hm_X} {n : Nat} {S : hm_S} (hC : hm_C X RX12 cX12_lay 5 none 1 n S) {k3 : Nat → Int64 → Int32 → hm_M → Option hm_M} (hk3 : ∀ (v0 : Nat) (v1 : Int64) (v3 : Int32)  (M : hm_M) (M' : hm_M), k3 v0 v1 v3 M = some M' → hm_U X 3 [(0, .ref v0), (1, .long v1), (3, .int v3)] [] M (hm_Q X none M')) {v0 : Nat} {v1 : Int64} {v3 : Int32} {v4 : Int32} {M : hm_M} {M' : hm_M} (hF : b_Md_lay_2 S k3 v0 v1 v3 v4 M = some M') : hm_U X 38 [(0, .ref v0), (1, .long v1), (3, .int v3), (4, .int v4)] [] M (hm_Q X none M') := by
  unfold b_Md_lay_2 at hF
  refine jv_aload_n hC 0 dX12_lay_38 rfl ?_
  obtain ⟨g1, hF⟩ := hg_some hF
  refine jv_getI hC fl_X12_11 dX12_lay_39 rfl g1 ?_
  refine jv_sipush hC dX12_lay_42 c16_1000 ?_
  refine jv_icmp_ge hC 69 dX12_lay_45 (by decide) (fun h2 => ?_) (fun h2 => ?_)
  · have hF := hi_pos h2 hF
    refine jv_iinc hC 2 [(3, .int (v3 + (-8 : Int32))), (0, .ref v0), (1, .long v1), (4, .int v4)] dX12_lay_69 rfl c32_m8 (by decide) rfl ?_
    refine jv_goto hC 3 dX12_lay_72 (by decide) ?_
    refine jv_sub [1, 2, 0] (ls' := [(0, .ref v0), (1, .long v1), (3, .int (v3 + (-8 : Int32)))]) rfl ?_
    exact jv_pc 3 rfl (hk3 _ _ _ _ _ hF)
  · have hF := hi_neg h2 hF
    refine jv_aload_n hC 0 dX12_lay_48 rfl ?_
    obtain ⟨g3, hF⟩ := hg_some hF
    refine jv_getR hC fl_X12_14 dX12_lay_49 rfl g1 g3 ?_
    refine jv_aload_n hC 0 dX12_lay_52 rfl ?_
    refine jv_getI hC fl_X12_11 dX12_lay_53 rfl g1 ?_
    refine jv_iload hC 3 dX12_lay_56 rfl ?_
    obtain ⟨g4, hF⟩ := hg_some hF
    obtain ⟨n5, sn5, in5⟩ := hm_ib_ok g4
    refine jv_iastore hC dX12_lay_58 sn5 in5 ?_
    obtain ⟨M6, e7, hF⟩ := hl_some hF
    refine jv_mem e7 ?_
    refine jv_aload_n hC 0 dX12_lay_59 rfl ?_
    refine jv_pc 60 rfl ?_
    refine jv_dup hC dX12_lay_60 rfl ?_
    refine jv_getI hC fl_X12_11 dX12_lay_61 rfl g1 ?_
    refine jv_iconst hC dX12_lay_64 c32_1 ?_
    refine jv_iadd hC dX12_lay_65 ?_
    refine jv_putI hC fl_X12_11 dX12_lay_66 rfl rfl rfl g1 ?_
    obtain ⟨M8, e9, hF⟩ := hl_some hF
    refine jv_mem e9 ?_
    refine jv_iinc hC 2 [(3, .int (v3 + (-8 : Int32))), (0, .ref v0), (1, .long v1), (4, .int v4)] dX12_lay_69 rfl c32_m8 (by decide) rfl ?_
    refine jv_goto hC 3 dX12_lay_72 (by decide) ?_
    refine jv_sub [1, 2, 0] (ls' := [(0, .ref v0), (1, .long v1), (3, .int (v3 + (-8 : Int32)))]) rfl ?_
    exact jv_pc 3 rfl (hk3 _ _ _ _ _ hF)
set_option maxRecDepth 100000 in
set_option maxHeartbeats 4000000 in
theorem t_Md_lay_1 {X : hm_X} {n : Nat} {S : hm_S} (hC : hm_C X RX12 cX12_lay 5 none 1 n S) {k3 : Nat → Int64 → Int32 → hm_M → Option hm_M} (hk3 : ∀ (v0 : Nat) (v1 : Int64) (v3 : Int32)  (M : hm_M) (M' : hm_M), k3 v0 v1 v3 M = some M' → hm_U X 3 [(0, .ref v0), (1, .long v1), (3, .int v3)] [] M (hm_Q X none M')) {v0 : Nat} {v1 : Int64} {v3 : Int32} {M : hm_M} {M' : hm_M} (hF : b_Md_lay_1 S k3 v0 v1 v3 M = some M') : hm_U X 3 [(0, .ref v0), (1, .long v1), (3, .int v3)] [] M (hm_Q X none M') := by
  unfold b_Md_lay_1 at hF
  refine jv_iload_n hC 2 dX12_lay_3 rfl ?_
  refine jv_if_lt hC 75 dX12_lay_4 (by decide) (fun h1 => ?_) (fun h1 => ?_)
  · have hF := hi_pos h1 hF
    obtain rfl := hr_somev hF
    exact jv_vret hC dX12_lay_75
  · have hF := hi_neg h1 hF
    refine jv_lload_n hC 1 dX12_lay_7 rfl ?_
    refine jv_iload_n hC 2 dX12_lay_8 rfl ?_
    refine jv_lshr hC dX12_lay_9 ?_
    refine jv_l2i hC dX12_lay_10 ?_
    refine jv_sipush hC dX12_lay_11 c16_255 ?_
    refine jv_iand hC dX12_lay_14 ?_
    obtain ⟨x2, e3, hF⟩ := hl_some hF
    refine jv_topI e3 ?_
    refine jv_istore hC [(4, .int x2), (0, .ref v0), (1, .long v1), (3, .int v3)] dX12_lay_15 (by decide) rfl ?_
    refine jv_pc 17 rfl ?_
    refine jv_iload hC 0 dX12_lay_17 rfl ?_
    refine jv_bipush hC dX12_lay_19 c8_10 ?_
    refine jv_icmp_eq hC 38 dX12_lay_21 (by decide) (fun h4 => ?_) (fun h4 => ?_)
    · have hF := hi_pos h4 hF
      refine jv_sub [1, 2, 3, 0] (ls' := [(0, .ref v0), (1, .long v1), (3, .int v3), (4, .int x2)]) rfl ?_
      exact jv_pc 38 rfl (s_Md_lay_2 hC hk3 hF)
    · have hF := hi_neg h4 hF
      refine jv_iload hC 0 dX12_lay_24 rfl ?_
      refine jv_bipush hC dX12_lay_26 c8_32 ?_
      refine jv_icmp_lt hC 69 dX12_lay_28 (by decide) (fun h5 => ?_) (fun h5 => ?_)
      · have hF := hi_pos h5 hF
        refine jv_iinc hC 3 [(3, .int (v3 + (-8 : Int32))), (4, .int x2), (0, .ref v0), (1, .long v1)] dX12_lay_69 rfl c32_m8 (by decide) rfl ?_
        refine jv_goto hC 3 dX12_lay_72 (by decide) ?_
        refine jv_sub [2, 3, 0] (ls' := [(0, .ref v0), (1, .long v1), (3, .int (v3 + (-8 : Int32)))]) rfl ?_
        exact jv_pc 3 rfl (hk3 _ _ _ _ _ hF)
      · have hF := hi_neg h5 hF
        refine jv_iload hC 0 dX12_lay_31 rfl ?_
        refine jv_bipush hC dX12_lay_33 c8_126 ?_
        refine jv_icmp_gt hC 69 dX12_lay_35 (by decide) (fun h6 => ?_) (fun h6 => ?_)
        · have hF := hi_pos h6 hF
          refine jv_iinc hC 3 [(3, .int (v3 + (-8 : Int32))), (4, .int x2), (0, .ref v0), (1, .long v1)] dX12_lay_69 rfl c32_m8 (by decide) rfl ?_
          refine jv_goto hC 3 dX12_lay_72 (by decide) ?_
          refine jv_sub [2, 3, 0] (ls' := [(0, .ref v0), (1, .long v1), (3, .int (v3 + (-8 : Int32)))]) rfl ?_
          exact jv_pc 3 rfl (hk3 _ _ _ _ _ hF)
        · have hF := hi_neg h6 hF
          refine jv_sub [1, 2, 3, 0] (ls' := [(0, .ref v0), (1, .long v1), (3, .int v3), (4, .int x2)]) rfl ?_
          exact jv_pc 38 rfl (s_Md_lay_2 hC hk3 hF)
theorem s_Md_lay_1 {X : hm_X} {n : Nat} {S : hm_S} (hC : hm_C X RX12 cX12_lay 5 none 1 n S) : ∀ (q : Nat) (v0 : Nat) (v1 : Int64) (v3 : Int32) (M : hm_M) (M' : hm_M), f_Md_lay_1 S  q v0 v1 v3 M = some M' → hm_U X 3 [(0, .ref v0), (1, .long v1), (3, .int v3)] [] M (hm_Q X none M') := by
  intro q
  induction q with
  | zero => intro v0 v1 v3 M M' hF; cases hF
  | succ q ih => intro v0 v1 v3 M M' hF; exact t_Md_lay_1 hC ih hF
set_option maxRecDepth 100000 in
set_option maxHeartbeats 4000000 in
theorem k_Md_lay {n : Nat} {S : hm_S} {v0 : Nat} {v1 : Int64} {M : hm_M} {M' : hm_M} (hF : f_Md_lay S v0 v1 M = some M') : hm_KM yX12_lay cX12_lay 5 none 1 n S [.ref v0, .long v1] M none M' := by
  refine hm_enter mm_Md_lay (Nat.le_of_ble_eq_true rfl) (fun X hC => ?_)
  show hm_U X 0 [(0, .ref v0), (1, .long v1)] [] M _
  unfold f_Md_lay at hF
  refine jv_bipush hC dX12_lay_0 c8_56 ?_
  refine jv_istore_n hC [(3, .int (56 : Int32)), (0, .ref v0), (1, .long v1)] dX12_lay_2 (by decide) rfl ?_
  refine jv_sub [1, 2, 0] (ls' := [(0, .ref v0), (1, .long v1), (3, .int (56 : Int32))]) rfl ?_
  exact jv_pc 3 rfl (s_Md_lay_1 hC hN _ _ _ _ _ hF)
set_option maxRecDepth 100000 in
set_option maxHeartbeats 4000000 in
theorem k_Md_feed {n : Nat} {S : hm_S} {v0 : Nat} {v1 : Int64} {v3 : Int64} {v5 : Int64} {M : hm_M} {r : Int32} {M' : hm_M} (hF : f_Md_feed S v0 v1 v3 v5 M = some (r, M')) : hm_KM yX12_feed cX12_feed 7 (some .int) 2 n S [.ref v0, .long v1, .long v3, .long v5] M (some (.int r)) M' := by
  refine hm_enter mm_Md_feed (Nat.le_of_ble_eq_true rfl) (fun X hC => ?_)
  show hm_U X 0 [(0, .ref v0), (1, .long v1), (3, .long v3), (5, .long v5)] [] M _
  unfold f_Md_feed at hF
  refine jv_aload_n hC 0 dX12_feed_0 rfl ?_
  refine jv_iconst hC dX12_feed_1 c32_0 ?_
  obtain ⟨g1, hF⟩ := hg_some hF
  refine jv_putI hC fl_X12_1 dX12_feed_2 rfl rfl rfl g1 ?_
  obtain ⟨M2, e3, hF⟩ := hl_some hF
  refine jv_mem e3 ?_
  refine jv_aload_n hC 0 dX12_feed_5 rfl ?_
  refine jv_lload_n hC 1 dX12_feed_6 rfl ?_
  obtain ⟨M5, c4, hF⟩ := hv_some hF
  refine jv_callV hC (st := []) [.long v1] (k_Md_lay c4) mm_Md_lay mi_Md_lay ml_X12_7 dX12_feed_7 g1 rfl (Nat.le_of_ble_eq_true rfl) rfl rfl (Nat.le_of_ble_eq_true rfl) ?_
  refine jv_nf 10 [] rfl rfl ?_
  refine jv_aload_n hC 0 dX12_feed_10 rfl ?_
  refine jv_lload_n hC 2 dX12_feed_11 rfl ?_
  obtain ⟨M7, c6, hF⟩ := hv_some hF
  refine jv_callV hC (st := []) [.long v3] (k_Md_lay c6) mm_Md_lay mi_Md_lay ml_X12_7 dX12_feed_12 g1 rfl (Nat.le_of_ble_eq_true rfl) rfl rfl (Nat.le_of_ble_eq_true rfl) ?_
  refine jv_nf 15 [] rfl rfl ?_
  refine jv_aload_n hC 0 dX12_feed_15 rfl ?_
  refine jv_lload hC 3 dX12_feed_16 rfl ?_
  obtain ⟨M9, c8, hF⟩ := hv_some hF
  refine jv_callV hC (st := []) [.long v5] (k_Md_lay c8) mm_Md_lay mi_Md_lay ml_X12_7 dX12_feed_18 g1 rfl (Nat.le_of_ble_eq_true rfl) rfl rfl (Nat.le_of_ble_eq_true rfl) ?_
  refine jv_nf 21 [] rfl rfl ?_
  refine jv_aload_n hC 0 dX12_feed_21 rfl ?_
  refine jv_getI hC fl_X12_11 dX12_feed_22 rfl g1 ?_
  obtain ⟨rfl, rfl⟩ := hr_some hF
  exact jv_iret hC dX12_feed_25
set_option maxRecDepth 100000 in
set_option maxHeartbeats 4000000 in
theorem k_Md_isPlace {n : Nat} {S : hm_S} {v0 : Nat} {v1 : Int32} {M : hm_M} {r : Int32} {M' : hm_M} (hF : f_Md_isPlace S v0 v1 M = some (r, M')) : hm_KM yX12_isPlace cX12_isPlace 2 (some .boolean) 2 n S [.ref v0, .int v1] M (some (.int r)) M' := by
  refine hm_enter mm_Md_isPlace (Nat.le_of_ble_eq_true rfl) (fun X hC => ?_)
  show hm_U X 0 [(0, .ref v0), (1, .int v1)] [] M _
  unfold f_Md_isPlace at hF
  refine jv_aload_n hC 0 dX12_isPlace_0 rfl ?_
  refine jv_iload_n hC 1 dX12_isPlace_1 rfl ?_
  refine jv_bipush hC dX12_isPlace_2 c8_8 ?_
  refine jv_irem hC dX12_isPlace_4 (by decide) ?_
  refine jv_iload_n hC 1 dX12_isPlace_5 rfl ?_
  refine jv_bipush hC dX12_isPlace_6 c8_8 ?_
  refine jv_idiv hC dX12_isPlace_8 (by decide) ?_
  refine jv_pc 9 rfl ?_
  obtain ⟨g1, hF⟩ := hg_some hF
  obtain ⟨r4, M3, c2, hF⟩ := hb_some hF
  refine jv_callV hC (st := []) [.int (v1 - v1 / (8 : Int32) * (8 : Int32)), .int (v1 / (8 : Int32))] (k_Md_isOn c2) mm_Md_isOn mi_Md_isOn ml_X12_295 dX12_isPlace_9 g1 rfl (Nat.le_of_ble_eq_true rfl) rfl rfl (Nat.le_of_ble_eq_true rfl) ?_
  refine jv_nf 12 [.int r4] rfl rfl ?_
  obtain ⟨g5, hF⟩ := hg_some hF
  obtain ⟨rfl, rfl⟩ := hr_some hF
  exact jv_zret hC (hz_ok g5) dX12_isPlace_12
set_option maxRecDepth 100000 in
set_option maxHeartbeats 4000000 in
theorem s_Md_findMay_7 {X : hm_X} {n : Nat} {S : hm_S} (hC : hm_C X RX12 cX12_findMay 8 none 5 n S) {k101 : Nat → Int32 → Int32 → Int32 → hm_M → Option hm_M} (hk101 : ∀ (v0 : Nat) (v4 : Int32) (v5 : Int32) (v6 : Int32)  (M : hm_M) (M' : hm_M), k101 v0 v4 v5 v6 M = some M' → hm_U X 101 [(0, .ref v0), (4, .int v4), (5, .int v5), (6, .int v6)] [] M (hm_Q X none M')) {v0 : Nat} {v4 : Int32} {v5 : Int32} {v6 : Int32} {s0 : Int32} {s1 : Int32} {s2 : Nat} {M : hm_M} {M' : hm_M} (hF : b_Md_findMay_7 S k101 v0 v4 v5 v6 s0 s1 s2 M = some M') : hm_U X 141 [(0, .ref v0), (4, .int v4), (5, .int v5), (6, .int v6)] [.int s0, .int s1, .ref s2] M (hm_Q X none M') := by
  unfold b_Md_findMay_7 at hF
  obtain ⟨g1, hF⟩ := hg_some hF
  obtain ⟨n2, sn2, in2⟩ := hm_ib_ok g1
  refine jv_iastore hC dX12_findMay_141 sn2 in2 ?_
  obtain ⟨M3, e4, hF⟩ := hl_some hF
  refine jv_mem e4 ?_
  refine jv_iinc hC 3 [(6, .int (v6 + (1 : Int32))), (0, .ref v0), (4, .int v4), (5, .int v5)] dX12_findMay_142 rfl c32_1 (by decide) rfl ?_
  refine jv_goto hC 101 dX12_findMay_145 (by decide) ?_
  refine jv_sub [1, 2, 3, 0] (ls' := [(0, .ref v0), (4, .int v4), (5, .int v5), (6, .int (v6 + (1 : Int32)))]) rfl ?_
  exact jv_pc 101 rfl (hk101 _ _ _ _ _ _ hF)
set_option maxRecDepth 100000 in
set_option maxHeartbeats 4000000 in
theorem t_Md_findMay_6 {X : hm_X} {n : Nat} {S : hm_S} (hC : hm_C X RX12 cX12_findMay 8 none 5 n S) {k101 : Nat → Int32 → Int32 → Int32 → hm_M → Option hm_M} (hk101 : ∀ (v0 : Nat) (v4 : Int32) (v5 : Int32) (v6 : Int32)  (M : hm_M) (M' : hm_M), k101 v0 v4 v5 v6 M = some M' → hm_U X 101 [(0, .ref v0), (4, .int v4), (5, .int v5), (6, .int v6)] [] M (hm_Q X none M')) {v0 : Nat} {v4 : Int32} {v5 : Int32} {v6 : Int32} {M : hm_M} {M' : hm_M} (hF : b_Md_findMay_6 S k101 v0 v4 v5 v6 M = some M') : hm_U X 101 [(0, .ref v0), (4, .int v4), (5, .int v5), (6, .int v6)] [] M (hm_Q X none M') := by
  unfold b_Md_findMay_6 at hF
  refine jv_iload hC 3 dX12_findMay_101 rfl ?_
  refine jv_bipush hC dX12_findMay_103 c8_64 ?_
  refine jv_icmp_ge hC 148 dX12_findMay_105 (by decide) (fun h1 => ?_) (fun h1 => ?_)
  · have hF := hi_pos h1 hF
    obtain rfl := hr_somev hF
    exact jv_vret hC dX12_findMay_148
  · have hF := hi_neg h1 hF
    refine jv_iload hC 2 dX12_findMay_108 rfl ?_
    refine jv_if_ne hC 148 dX12_findMay_110 (by decide) (fun h2 => ?_) (fun h2 => ?_)
    · have hF := hi_neg h2 hF
      obtain rfl := hr_somev hF
      exact jv_vret hC dX12_findMay_148
    · have hF := hi_pos h2 hF
      refine jv_aload_n hC 0 dX12_findMay_113 rfl ?_
      obtain ⟨g3, hF⟩ := hg_some hF
      obtain ⟨g4, hF⟩ := hg_some hF
      refine jv_getR hC fl_X12_121 dX12_findMay_114 rfl g3 g4 ?_
      refine jv_bipush hC dX12_findMay_117 c8_64 ?_
      refine jv_iload hC 1 dX12_findMay_119 rfl ?_
      refine jv_imul hC dX12_findMay_121 ?_
      refine jv_iload hC 3 dX12_findMay_122 rfl ?_
      refine jv_iadd hC dX12_findMay_124 ?_
      refine jv_pc 125 rfl ?_
      refine jv_aload_n hC 0 dX12_findMay_125 rfl ?_
      refine jv_iload hC 3 dX12_findMay_126 rfl ?_
      obtain ⟨r7, M6, c5, hF⟩ := hb_some hF
      refine jv_callV hC (st := [.int (((64 : Int32) * v4) + v6), .ref (M.2.2 v0 30)]) [.int v6] (k_Md_isPlace c5) mm_Md_isPlace mi_Md_isPlace ml_X12_350 dX12_findMay_128 g3 rfl (Nat.le_of_ble_eq_true rfl) rfl rfl (Nat.le_of_ble_eq_true rfl) ?_
      refine jv_nf 131 [.int r7, .int (((64 : Int32) * v4) + v6), .ref (M.2.2 v0 30)] rfl rfl ?_
      refine jv_if_eq hC 138 dX12_findMay_131 (by decide) (fun h8 => ?_) (fun h8 => ?_)
      · have hF := hi_pos h8 hF
        refine jv_ldcw hC cn_X12_353 dX12_findMay_138 ?_
        exact jv_pc 141 rfl (s_Md_findMay_7 hC hk101 hF)
      · have hF := hi_neg h8 hF
        refine jv_iconst hC dX12_findMay_134 c32_0 ?_
        refine jv_goto hC 141 dX12_findMay_135 (by decide) ?_
        exact jv_pc 141 rfl (s_Md_findMay_7 hC hk101 hF)
theorem s_Md_findMay_6 {X : hm_X} {n : Nat} {S : hm_S} (hC : hm_C X RX12 cX12_findMay 8 none 5 n S) : ∀ (q : Nat) (v0 : Nat) (v4 : Int32) (v5 : Int32) (v6 : Int32) (M : hm_M) (M' : hm_M), f_Md_findMay_6 S  q v0 v4 v5 v6 M = some M' → hm_U X 101 [(0, .ref v0), (4, .int v4), (5, .int v5), (6, .int v6)] [] M (hm_Q X none M') := by
  intro q
  induction q with
  | zero => intro v0 v4 v5 v6 M M' hF; cases hF
  | succ q ih => intro v0 v4 v5 v6 M M' hF; exact t_Md_findMay_6 hC ih hF
set_option maxRecDepth 100000 in
set_option maxHeartbeats 4000000 in
theorem s_Md_findMay_5 {X : hm_X} {n : Nat} {S : hm_S} (hC : hm_C X RX12 cX12_findMay 8 none 5 n S) {k12 : Nat → Int32 → Int32 → Int32 → Int32 → hm_M → Option hm_M} (hk12 : ∀ (v0 : Nat) (v1 : Int32) (v4 : Int32) (v5 : Int32) (v6 : Int32)  (M : hm_M) (M' : hm_M), k12 v0 v1 v4 v5 v6 M = some M' → hm_U X 12 [(0, .ref v0), (1, .int v1), (4, .int v4), (5, .int v5), (6, .int v6)] [] M (hm_Q X none M')) {v0 : Nat} {v1 : Int32} {v4 : Int32} {v5 : Int32} {v6 : Int32} {s0 : Int32} {s1 : Int32} {s2 : Nat} {M : hm_M} {M' : hm_M} (hF : b_Md_findMay_5 S k12 v0 v1 v4 v5 v6 s0 s1 s2 M = some M') : hm_U X 91 [(0, .ref v0), (1, .int v1), (4, .int v4), (5, .int v5), (6, .int v6)] [.int s0, .int s1, .ref s2] M (hm_Q X none M') := by
  unfold b_Md_findMay_5 at hF
  obtain ⟨g1, hF⟩ := hg_some hF
  obtain ⟨n2, sn2, in2⟩ := hm_ib_ok g1
  refine jv_iastore hC dX12_findMay_91 sn2 in2 ?_
  obtain ⟨M3, e4, hF⟩ := hl_some hF
  refine jv_mem e4 ?_
  refine jv_iinc hC 4 [(6, .int (v6 + (1 : Int32))), (0, .ref v0), (1, .int v1), (4, .int v4), (5, .int v5)] dX12_findMay_92 rfl c32_1 (by decide) rfl ?_
  refine jv_goto hC 12 dX12_findMay_95 (by decide) ?_
  refine jv_sub [1, 2, 3, 4, 0] (ls' := [(0, .ref v0), (1, .int v1), (4, .int v4), (5, .int v5), (6, .int (v6 + (1 : Int32)))]) rfl ?_
  exact jv_pc 12 rfl (hk12 _ _ _ _ _ _ _ hF)
set_option maxRecDepth 100000 in
set_option maxHeartbeats 4000000 in
theorem s_Md_findMay_4 {X : hm_X} {n : Nat} {S : hm_S} (hC : hm_C X RX12 cX12_findMay 8 none 5 n S) {k12 : Nat → Int32 → Int32 → Int32 → Int32 → hm_M → Option hm_M} (hk12 : ∀ (v0 : Nat) (v1 : Int32) (v4 : Int32) (v5 : Int32) (v6 : Int32)  (M : hm_M) (M' : hm_M), k12 v0 v1 v4 v5 v6 M = some M' → hm_U X 12 [(0, .ref v0), (1, .int v1), (4, .int v4), (5, .int v5), (6, .int v6)] [] M (hm_Q X none M')) {v0 : Nat} {v1 : Int32} {v4 : Int32} {v6 : Int32} {v7 : Int32} {s0 : Int32} {M : hm_M} {M' : hm_M} (hF : b_Md_findMay_4 S k12 v0 v1 v4 v6 v7 s0 M = some M') : hm_U X 65 [(0, .ref v0), (1, .int v1), (4, .int v4), (6, .int v6), (7, .int v7)] [.int s0] M (hm_Q X none M') := by
  unfold b_Md_findMay_4 at hF
  refine jv_istore hC [(5, .int s0), (0, .ref v0), (1, .int v1), (4, .int v4), (6, .int v6), (7, .int v7)] dX12_findMay_65 (by decide) rfl ?_
  refine jv_aload_n hC 1 dX12_findMay_67 rfl ?_
  obtain ⟨g1, hF⟩ := hg_some hF
  obtain ⟨g2, hF⟩ := hg_some hF
  refine jv_getR hC fl_X12_121 dX12_findMay_68 rfl g1 g2 ?_
  refine jv_bipush hC dX12_findMay_71 c8_64 ?_
  refine jv_iload hC 3 dX12_findMay_73 rfl ?_
  refine jv_imul hC dX12_findMay_75 ?_
  refine jv_iload hC 4 dX12_findMay_76 rfl ?_
  refine jv_pc 78 rfl ?_
  refine jv_iadd hC dX12_findMay_78 ?_
  refine jv_iload hC 5 dX12_findMay_79 rfl ?_
  refine jv_if_eq hC 88 dX12_findMay_81 (by decide) (fun h3 => ?_) (fun h3 => ?_)
  · have hF := hi_pos h3 hF
    refine jv_ldcw hC cn_X12_353 dX12_findMay_88 ?_
    refine jv_sub [1, 2, 3, 0, 4] (ls' := [(0, .ref v0), (1, .int v1), (4, .int v4), (5, .int s0), (6, .int v6)]) rfl ?_
    exact jv_pc 91 rfl (s_Md_findMay_5 hC hk12 hF)
  · have hF := hi_neg h3 hF
    refine jv_iconst hC dX12_findMay_84 c32_0 ?_
    refine jv_goto hC 91 dX12_findMay_85 (by decide) ?_
    refine jv_sub [1, 2, 3, 0, 4] (ls' := [(0, .ref v0), (1, .int v1), (4, .int v4), (5, .int s0), (6, .int v6)]) rfl ?_
    exact jv_pc 91 rfl (s_Md_findMay_5 hC hk12 hF)
set_option maxRecDepth 100000 in
set_option maxHeartbeats 4000000 in
theorem s_Md_findMay_3 {X : hm_X} {n : Nat} {S : hm_S} (hC : hm_C X RX12 cX12_findMay 8 none 5 n S) {k12 : Nat → Int32 → Int32 → Int32 → Int32 → hm_M → Option hm_M} (hk12 : ∀ (v0 : Nat) (v1 : Int32) (v4 : Int32) (v5 : Int32) (v6 : Int32)  (M : hm_M) (M' : hm_M), k12 v0 v1 v4 v5 v6 M = some M' → hm_U X 12 [(0, .ref v0), (1, .int v1), (4, .int v4), (5, .int v5), (6, .int v6)] [] M (hm_Q X none M')) {v0 : Nat} {v1 : Int32} {v4 : Int32} {v5 : Int32} {v6 : Int32} {s0 : Int32} {M : hm_M} {M' : hm_M} (hF : b_Md_findMay_3 S k12 v0 v1 v4 v5 v6 s0 M = some M') : hm_U X 48 [(0, .ref v0), (1, .int v1), (4, .int v4), (5, .int v5), (6, .int v6)] [.int s0] M (hm_Q X none M') := by
  unfold b_Md_findMay_3 at hF
  refine jv_istore hC [(7, .int s0), (0, .ref v0), (1, .int v1), (4, .int v4), (5, .int v5), (6, .int v6)] dX12_findMay_48 (by decide) rfl ?_
  refine jv_iload hC 4 dX12_findMay_50 rfl ?_
  refine jv_if_ne hC 60 dX12_findMay_52 (by decide) (fun h1 => ?_) (fun h1 => ?_)
  · have hF := hi_neg h1 hF
    refine jv_iconst hC dX12_findMay_60 c32_1 ?_
    refine jv_goto hC 65 dX12_findMay_61 (by decide) ?_
    refine jv_sub [1, 2, 3, 5, 0] (ls' := [(0, .ref v0), (1, .int v1), (4, .int v4), (6, .int v6), (7, .int s0)]) rfl ?_
    exact jv_pc 65 rfl (s_Md_findMay_4 hC hk12 hF)
  · have hF := hi_pos h1 hF
    refine jv_iload hC 0 dX12_findMay_55 rfl ?_
    refine jv_if_eq hC 64 dX12_findMay_57 (by decide) (fun h2 => ?_) (fun h2 => ?_)
    · have hF := hi_pos h2 hF
      refine jv_iconst hC dX12_findMay_64 c32_0 ?_
      refine jv_sub [1, 2, 3, 5, 0] (ls' := [(0, .ref v0), (1, .int v1), (4, .int v4), (6, .int v6), (7, .int s0)]) rfl ?_
      exact jv_pc 65 rfl (s_Md_findMay_4 hC hk12 hF)
    · have hF := hi_neg h2 hF
      refine jv_iconst hC dX12_findMay_60 c32_1 ?_
      refine jv_goto hC 65 dX12_findMay_61 (by decide) ?_
      refine jv_sub [1, 2, 3, 5, 0] (ls' := [(0, .ref v0), (1, .int v1), (4, .int v4), (6, .int v6), (7, .int s0)]) rfl ?_
      exact jv_pc 65 rfl (s_Md_findMay_4 hC hk12 hF)
set_option maxRecDepth 100000 in
set_option maxHeartbeats 4000000 in
theorem s_Md_findMay_2 {X : hm_X} {n : Nat} {S : hm_S} (hC : hm_C X RX12 cX12_findMay 8 none 5 n S) {k12 : Nat → Int32 → Int32 → Int32 → Int32 → hm_M → Option hm_M} (hk12 : ∀ (v0 : Nat) (v1 : Int32) (v4 : Int32) (v5 : Int32) (v6 : Int32)  (M : hm_M) (M' : hm_M), k12 v0 v1 v4 v5 v6 M = some M' → hm_U X 12 [(0, .ref v0), (1, .int v1), (4, .int v4), (5, .int v5), (6, .int v6)] [] M (hm_Q X none M')) {v0 : Nat} {v1 : Int32} {v4 : Int32} {v5 : Int32} {v6 : Int32} {M : hm_M} {M' : hm_M} (hF : b_Md_findMay_2 S k12 v0 v1 v4 v5 v6 M = some M') : hm_U X 47 [(0, .ref v0), (1, .int v1), (4, .int v4), (5, .int v5), (6, .int v6)] [] M (hm_Q X none M') := by
  unfold b_Md_findMay_2 at hF
  refine jv_iconst hC dX12_findMay_47 c32_0 ?_
  exact jv_pc 48 rfl (s_Md_findMay_3 hC hk12 hF)
set_option maxRecDepth 100000 in
set_option maxHeartbeats 4000000 in
theorem t_Md_findMay_1 {X : hm_X} {n : Nat} {S : hm_S} (hC : hm_C X RX12 cX12_findMay 8 none 5 n S) {k12 : Nat → Int32 → Int32 → Int32 → Int32 → hm_M → Option hm_M} (hk12 : ∀ (v0 : Nat) (v1 : Int32) (v4 : Int32) (v5 : Int32) (v6 : Int32)  (M : hm_M) (M' : hm_M), k12 v0 v1 v4 v5 v6 M = some M' → hm_U X 12 [(0, .ref v0), (1, .int v1), (4, .int v4), (5, .int v5), (6, .int v6)] [] M (hm_Q X none M')) {v0 : Nat} {v1 : Int32} {v4 : Int32} {v5 : Int32} {v6 : Int32} {M : hm_M} {M' : hm_M} (hF : b_Md_findMay_1 S k12 v0 v1 v4 v5 v6 M = some M') : hm_U X 12 [(0, .ref v0), (1, .int v1), (4, .int v4), (5, .int v5), (6, .int v6)] [] M (hm_Q X none M') := by
  unfold b_Md_findMay_1 at hF
  refine jv_iload hC 4 dX12_findMay_12 rfl ?_
  refine jv_bipush hC dX12_findMay_14 c8_64 ?_
  refine jv_icmp_ge hC 98 dX12_findMay_16 (by decide) (fun h1 => ?_) (fun h1 => ?_)
  · have hF := hi_pos h1 hF
    refine jv_iconst hC dX12_findMay_98 c32_0 ?_
    refine jv_istore hC [(6, .int (0 : Int32)), (0, .ref v0), (1, .int v1), (4, .int v4), (5, .int v5)] dX12_findMay_99 (by decide) rfl ?_
    refine jv_sub [1, 3, 4, 0] (ls' := [(0, .ref v0), (4, .int v4), (5, .int v5), (6, .int (0 : Int32))]) rfl ?_
    exact jv_pc 101 rfl (s_Md_findMay_6 hC hN _ _ _ _ _ _ hF)
  · have hF := hi_neg h1 hF
    refine jv_aload_n hC 0 dX12_findMay_19 rfl ?_
    refine jv_iload hC 4 dX12_findMay_20 rfl ?_
    obtain ⟨g2, hF⟩ := hg_some hF
    obtain ⟨r5, M4, c3, hF⟩ := hb_some hF
    refine jv_callV hC (st := []) [.int v6] (k_Md_isPlace c3) mm_Md_isPlace mi_Md_isPlace ml_X12_350 dX12_findMay_22 g2 rfl (Nat.le_of_ble_eq_true rfl) rfl rfl (Nat.le_of_ble_eq_true rfl) ?_
    refine jv_nf 25 [.int r5] rfl rfl ?_
    refine jv_if_eq hC 47 dX12_findMay_25 (by decide) (fun h6 => ?_) (fun h6 => ?_)
    · have hF := hi_pos h6 hF
      exact jv_pc 47 rfl (s_Md_findMay_2 hC hk12 hF)
    · have hF := hi_neg h6 hF
      refine jv_aload_n hC 0 dX12_findMay_28 rfl ?_
      refine jv_iload hC 4 dX12_findMay_29 rfl ?_
      refine jv_iconst hC dX12_findMay_31 c32_0 ?_
      obtain ⟨r9, M8, c7, hF⟩ := hb_some hF
      refine jv_callV hC (st := []) [.int v6, .int (0 : Int32)] (k_Md_lightAt c7) mm_Md_lightAt mi_Md_lightAt ml_X12_301 dX12_findMay_32 g2 rfl (Nat.le_of_ble_eq_true rfl) rfl rfl (Nat.le_of_ble_eq_true rfl) ?_
      refine jv_nf 35 [.int r9] rfl rfl ?_
      refine jv_iload_n hC 1 dX12_findMay_35 rfl ?_
      refine jv_ishr hC dX12_findMay_36 ?_
      refine jv_iconst hC dX12_findMay_37 c32_1 ?_
      refine jv_iand hC dX12_findMay_38 ?_
      refine jv_iconst hC dX12_findMay_39 c32_1 ?_
      refine jv_icmp_ne hC 47 dX12_findMay_40 (by decide) (fun h10 => ?_) (fun h10 => ?_)
      · have hF := hi_neg h10 hF
        exact jv_pc 47 rfl (s_Md_findMay_2 hC hk12 hF)
      · have hF := hi_pos h10 hF
        refine jv_iconst hC dX12_findMay_43 c32_1 ?_
        refine jv_goto hC 48 dX12_findMay_44 (by decide) ?_
        exact jv_pc 48 rfl (s_Md_findMay_3 hC hk12 hF)
theorem s_Md_findMay_1 {X : hm_X} {n : Nat} {S : hm_S} (hC : hm_C X RX12 cX12_findMay 8 none 5 n S) : ∀ (q : Nat) (v0 : Nat) (v1 : Int32) (v4 : Int32) (v5 : Int32) (v6 : Int32) (M : hm_M) (M' : hm_M), f_Md_findMay_1 S  q v0 v1 v4 v5 v6 M = some M' → hm_U X 12 [(0, .ref v0), (1, .int v1), (4, .int v4), (5, .int v5), (6, .int v6)] [] M (hm_Q X none M') := by
  intro q
  induction q with
  | zero => intro v0 v1 v4 v5 v6 M M' hF; cases hF
  | succ q ih => intro v0 v1 v4 v5 v6 M M' hF; exact t_Md_findMay_1 hC ih hF
set_option maxRecDepth 100000 in
set_option maxHeartbeats 4000000 in
theorem k_Md_findMay {n : Nat} {S : hm_S} {v0 : Nat} {v1 : Int32} {v2 : Int32} {v3 : Int32} {v4 : Int32} {M : hm_M} {M' : hm_M} (hF : f_Md_findMay S v0 v1 v2 v3 v4 M = some M') : hm_KM yX12_findMay cX12_findMay 8 none 5 n S [.ref v0, .int v1, .int v2, .int v3, .int v4] M none M' := by
  refine hm_enter mm_Md_findMay (Nat.le_of_ble_eq_true rfl) (fun X hC => ?_)
  show hm_U X 0 [(0, .ref v0), (1, .int v1), (2, .int v2), (3, .int v3), (4, .int v4)] [] M _
  unfold f_Md_findMay at hF
  refine jv_aload_n hC 0 dX12_findMay_0 rfl ?_
  refine jv_iload_n hC 2 dX12_findMay_1 rfl ?_
  refine jv_iload_n hC 3 dX12_findMay_2 rfl ?_
  obtain ⟨g1, hF⟩ := hg_some hF
  obtain ⟨M3, c2, hF⟩ := hv_some hF
  refine jv_callV hC (st := []) [.int v2, .int v3] (k_Md_findLight c2) mm_Md_findLight mi_Md_findLight ml_X12_298 dX12_findMay_3 g1 rfl (Nat.le_of_ble_eq_true rfl) rfl rfl (Nat.le_of_ble_eq_true rfl) ?_
  refine jv_nf 6 [] rfl rfl ?_
  refine jv_iconst hC dX12_findMay_6 c32_0 ?_
  refine jv_istore hC [(5, .int (0 : Int32)), (0, .ref v0), (1, .int v1), (2, .int v2), (3, .int v3), (4, .int v4)] dX12_findMay_7 (by decide) rfl ?_
  refine jv_iconst hC dX12_findMay_9 c32_0 ?_
  refine jv_istore hC [(6, .int (0 : Int32)), (5, .int (0 : Int32)), (0, .ref v0), (1, .int v1), (2, .int v2), (3, .int v3), (4, .int v4)] dX12_findMay_10 (by decide) rfl ?_
  refine jv_sub [0, 1, 2, 3, 6] (ls' := [(6, .int (0 : Int32)), (5, .int (0 : Int32)), (0, .ref v0), (1, .int v1), (4, .int v4)]) rfl ?_
  refine jv_sub [2, 3, 4, 1, 0] (ls' := [(0, .ref v0), (1, .int v1), (4, .int v4), (5, .int (0 : Int32)), (6, .int (0 : Int32))]) rfl ?_
  exact jv_pc 12 rfl (s_Md_findMay_1 hC hN _ _ _ _ _ _ _ hF)
set_option maxRecDepth 100000 in
set_option maxHeartbeats 4000000 in
theorem s_Md_steps_2 {X : hm_X} {n : Nat} {S : hm_S} (hC : hm_C X RX12 cX12_steps 4 (some .int) 1 n S) {s0 : Int32} {s1 : Int32} {M : hm_M} {r : Int32} {M' : hm_M} (hF : b_Md_steps_2 S s0 s1 M = some (r, M')) : hm_U X 40 [] [.int s0, .int s1] M (hm_Q X (some (.int r)) M') := by
  unfold b_Md_steps_2 at hF
  refine jv_iadd hC dX12_steps_40 ?_
  obtain ⟨rfl, rfl⟩ := hr_some hF
  exact jv_iret hC dX12_steps_41
set_option maxRecDepth 100000 in
set_option maxHeartbeats 4000000 in
theorem s_Md_steps_1 {X : hm_X} {n : Nat} {S : hm_S} (hC : hm_C X RX12 cX12_steps 4 (some .int) 1 n S) {v3 : Int32} {s0 : Int32} {M : hm_M} {r : Int32} {M' : hm_M} (hF : b_Md_steps_1 S v3 s0 M = some (r, M')) : hm_U X 30 [(3, .int v3)] [.int s0] M (hm_Q X (some (.int r)) M') := by
  unfold b_Md_steps_1 at hF
  refine jv_iload_n hC 0 dX12_steps_30 rfl ?_
  refine jv_if_ge hC 39 dX12_steps_31 (by decide) (fun h1 => ?_) (fun h1 => ?_)
  · have hF := hi_pos h1 hF
    refine jv_iload_n hC 0 dX12_steps_39 rfl ?_
    refine jv_sub [] (ls' := []) rfl ?_
    exact jv_pc 40 rfl (s_Md_steps_2 hC hF)
  · have hF := hi_neg h1 hF
    refine jv_iload_n hC 0 dX12_steps_34 rfl ?_
    refine jv_ineg hC dX12_steps_35 ?_
    refine jv_goto hC 40 dX12_steps_36 (by decide) ?_
    refine jv_sub [] (ls' := []) rfl ?_
    exact jv_pc 40 rfl (s_Md_steps_2 hC hF)
set_option maxRecDepth 100000 in
set_option maxHeartbeats 4000000 in
theorem k_Md_steps {n : Nat} {S : hm_S} {v0 : Int32} {v1 : Int32} {M : hm_M} {r : Int32} {M' : hm_M} (hF : f_Md_steps S v0 v1 M = some (r, M')) : hm_KM yX12_steps cX12_steps 4 (some .int) 1 n S [.int v0, .int v1] M (some (.int r)) M' := by
  refine hm_enter mm_Md_steps (Nat.le_of_ble_eq_true rfl) (fun X hC => ?_)
  show hm_U X 0 [(0, .int v0), (1, .int v1)] [] M _
  unfold f_Md_steps at hF
  refine jv_iload_n hC 0 dX12_steps_0 rfl ?_
  refine jv_bipush hC dX12_steps_1 c8_8 ?_
  refine jv_irem hC dX12_steps_3 (by decide) ?_
  refine jv_iload_n hC 1 dX12_steps_4 rfl ?_
  refine jv_bipush hC dX12_steps_5 c8_8 ?_
  refine jv_irem hC dX12_steps_7 (by decide) ?_
  refine jv_isub hC dX12_steps_8 ?_
  refine jv_pc 9 rfl ?_
  obtain ⟨x1, e2, hF⟩ := hl_some hF
  refine jv_topI e2 ?_
  refine jv_istore_n hC [(2, .int x1), (0, .int v0), (1, .int v1)] dX12_steps_9 (by decide) rfl ?_
  refine jv_iload_n hC 1 dX12_steps_10 rfl ?_
  refine jv_bipush hC dX12_steps_11 c8_8 ?_
  refine jv_idiv hC dX12_steps_13 (by decide) ?_
  refine jv_iload_n hC 2 dX12_steps_14 rfl ?_
  refine jv_bipush hC dX12_steps_15 c8_8 ?_
  refine jv_idiv hC dX12_steps_17 (by decide) ?_
  refine jv_isub hC dX12_steps_18 ?_
  refine jv_pc 19 rfl ?_
  obtain ⟨x3, e4, hF⟩ := hl_some hF
  refine jv_topI e4 ?_
  refine jv_istore_n hC [(3, .int x3), (2, .int x1), (0, .int v0), (1, .int v1)] dX12_steps_19 (by decide) rfl ?_
  refine jv_iload_n hC 1 dX12_steps_20 rfl ?_
  refine jv_if_ge hC 29 dX12_steps_21 (by decide) (fun h5 => ?_) (fun h5 => ?_)
  · have hF := hi_pos h5 hF
    refine jv_iload_n hC 1 dX12_steps_29 rfl ?_
    refine jv_sub [0] (ls' := [(3, .int x3)]) rfl ?_
    exact jv_pc 30 rfl (s_Md_steps_1 hC hF)
  · have hF := hi_neg h5 hF
    refine jv_iload_n hC 1 dX12_steps_24 rfl ?_
    refine jv_ineg hC dX12_steps_25 ?_
    refine jv_goto hC 30 dX12_steps_26 (by decide) ?_
    refine jv_sub [0] (ls' := [(3, .int x3)]) rfl ?_
    exact jv_pc 30 rfl (s_Md_steps_1 hC hF)
set_option maxRecDepth 100000 in
set_option maxHeartbeats 4000000 in
theorem s_Md_near_2 {X : hm_X} {n : Nat} {S : hm_S} (hC : hm_C X RX12 cX12_near 6 (some .int) 2 n S) {k6 : Nat → Int32 → Int32 → Int32 → Int32 → hm_M → Option (Int32 × hm_M)} (hk6 : ∀ (v1 : Nat) (v2 : Int32) (v3 : Int32) (v4 : Int32) (v5 : Int32)  (M : hm_M) (r : Int32) (M' : hm_M), k6 v1 v2 v3 v4 v5 M = some (r, M') → hm_U X 6 [(1, .ref v1), (2, .int v2), (3, .int v3), (4, .int v4), (5, .int v5)] [] M (hm_Q X (some (.int r)) M')) {v1 : Nat} {v2 : Int32} {v3 : Int32} {v5 : Int32} {s0 : Int32} {s1 : Int32} {M : hm_M} {r : Int32} {M' : hm_M} (hF : b_Md_near_2 S k6 v1 v2 v3 v5 s0 s1 M = some (r, M')) : hm_U X 38 [(1, .ref v1), (2, .int v2), (3, .int v3), (5, .int v5)] [.int s0, .int s1] M (hm_Q X (some (.int r)) M') := by
  unfold b_Md_near_2 at hF
  refine jv_iadd hC dX12_near_38 ?_
  obtain ⟨x1, e2, hF⟩ := hl_some hF
  refine jv_topI e2 ?_
  refine jv_istore hC [(4, .int x1), (1, .ref v1), (2, .int v2), (3, .int v3), (5, .int v5)] dX12_near_39 (by decide) rfl ?_
  refine jv_iinc hC 4 [(5, .int (v5 + (1 : Int32))), (4, .int x1), (1, .ref v1), (2, .int v2), (3, .int v3)] dX12_near_41 rfl c32_1 (by decide) rfl ?_
  refine jv_goto hC 6 dX12_near_44 (by decide) ?_
  refine jv_sub [2, 3, 4, 1, 0] (ls' := [(1, .ref v1), (2, .int v2), (3, .int v3), (4, .int x1), (5, .int (v5 + (1 : Int32)))]) rfl ?_
  exact jv_pc 6 rfl (hk6 _ _ _ _ _ _ _ _ hF)
set_option maxRecDepth 100000 in
set_option maxHeartbeats 4000000 in
theorem t_Md_near_1 {X : hm_X} {n : Nat} {S : hm_S} (hC : hm_C X RX12 cX12_near 6 (some .int) 2 n S) {k6 : Nat → Int32 → Int32 → Int32 → Int32 → hm_M → Option (Int32 × hm_M)} (hk6 : ∀ (v1 : Nat) (v2 : Int32) (v3 : Int32) (v4 : Int32) (v5 : Int32)  (M : hm_M) (r : Int32) (M' : hm_M), k6 v1 v2 v3 v4 v5 M = some (r, M') → hm_U X 6 [(1, .ref v1), (2, .int v2), (3, .int v3), (4, .int v4), (5, .int v5)] [] M (hm_Q X (some (.int r)) M')) {v1 : Nat} {v2 : Int32} {v3 : Int32} {v4 : Int32} {v5 : Int32} {M : hm_M} {r : Int32} {M' : hm_M} (hF : b_Md_near_1 S k6 v1 v2 v3 v4 v5 M = some (r, M')) : hm_U X 6 [(1, .ref v1), (2, .int v2), (3, .int v3), (4, .int v4), (5, .int v5)] [] M (hm_Q X (some (.int r)) M') := by
  unfold b_Md_near_1 at hF
  refine jv_iload hC 4 dX12_near_6 rfl ?_
  refine jv_bipush hC dX12_near_8 c8_64 ?_
  refine jv_icmp_ge hC 47 dX12_near_10 (by decide) (fun h1 => ?_) (fun h1 => ?_)
  · have hF := hi_pos h1 hF
    refine jv_iload hC 3 dX12_near_47 rfl ?_
    obtain ⟨rfl, rfl⟩ := hr_some hF
    exact jv_iret hC dX12_near_49
  · have hF := hi_neg h1 hF
    refine jv_iload hC 3 dX12_near_13 rfl ?_
    refine jv_iload_n hC 2 dX12_near_15 rfl ?_
    refine jv_iload hC 4 dX12_near_16 rfl ?_
    obtain ⟨r4, M3, c2, hF⟩ := hb_some hF
    refine jv_callS hC (st := [.int v4]) [.int v3, .int v5] (k_Md_steps c2) mm_Md_steps ms_Md_steps ml_X12_354 dX12_near_18 (Nat.le_of_ble_eq_true rfl) rfl rfl (Nat.le_of_ble_eq_true rfl) ?_
    refine jv_nf 21 [.int r4, .int v4] rfl rfl ?_
    refine jv_iconst hC dX12_near_21 c32_1 ?_
    refine jv_icmp_gt hC 37 dX12_near_22 (by decide) (fun h5 => ?_) (fun h5 => ?_)
    · have hF := hi_pos h5 hF
      refine jv_iconst hC dX12_near_37 c32_0 ?_
      refine jv_sub [0, 1, 2, 4] (ls' := [(1, .ref v1), (2, .int v2), (3, .int v3), (5, .int v5)]) rfl ?_
      exact jv_pc 38 rfl (s_Md_near_2 hC hk6 hF)
    · have hF := hi_neg h5 hF
      refine jv_aload_n hC 0 dX12_near_25 rfl ?_
      refine jv_bipush hC dX12_near_26 c8_64 ?_
      refine jv_iload_n hC 1 dX12_near_28 rfl ?_
      refine jv_imul hC dX12_near_29 ?_
      refine jv_iload hC 4 dX12_near_30 rfl ?_
      refine jv_iadd hC dX12_near_32 ?_
      obtain ⟨g6, hF⟩ := hg_some hF
      obtain ⟨n7, sn7, in7⟩ := hm_ib_ok g6
      refine jv_iaload hC dX12_near_33 sn7 in7 ?_
      refine jv_goto hC 38 dX12_near_34 (by decide) ?_
      refine jv_sub [0, 1, 2, 4] (ls' := [(1, .ref v1), (2, .int v2), (3, .int v3), (5, .int v5)]) rfl ?_
      exact jv_pc 38 rfl (s_Md_near_2 hC hk6 hF)
theorem s_Md_near_1 {X : hm_X} {n : Nat} {S : hm_S} (hC : hm_C X RX12 cX12_near 6 (some .int) 2 n S) : ∀ (q : Nat) (v1 : Nat) (v2 : Int32) (v3 : Int32) (v4 : Int32) (v5 : Int32) (M : hm_M) (r : Int32) (M' : hm_M), f_Md_near_1 S  q v1 v2 v3 v4 v5 M = some (r, M') → hm_U X 6 [(1, .ref v1), (2, .int v2), (3, .int v3), (4, .int v4), (5, .int v5)] [] M (hm_Q X (some (.int r)) M') := by
  intro q
  induction q with
  | zero => intro v1 v2 v3 v4 v5 M r M' hF; cases hF
  | succ q ih => intro v1 v2 v3 v4 v5 M r M' hF; exact t_Md_near_1 hC ih hF
set_option maxRecDepth 100000 in
set_option maxHeartbeats 4000000 in
theorem k_Md_near {n : Nat} {S : hm_S} {v0 : Nat} {v1 : Nat} {v2 : Int32} {v3 : Int32} {M : hm_M} {r : Int32} {M' : hm_M} (hF : f_Md_near S v0 v1 v2 v3 M = some (r, M')) : hm_KM yX12_near cX12_near 6 (some .int) 2 n S [.ref v0, .ref v1, .int v2, .int v3] M (some (.int r)) M' := by
  refine hm_enter mm_Md_near (Nat.le_of_ble_eq_true rfl) (fun X hC => ?_)
  show hm_U X 0 [(0, .ref v0), (1, .ref v1), (2, .int v2), (3, .int v3)] [] M _
  unfold f_Md_near at hF
  refine jv_iconst hC dX12_near_0 c32_0 ?_
  refine jv_istore hC [(4, .int (0 : Int32)), (0, .ref v0), (1, .ref v1), (2, .int v2), (3, .int v3)] dX12_near_1 (by decide) rfl ?_
  refine jv_iconst hC dX12_near_3 c32_0 ?_
  refine jv_istore hC [(5, .int (0 : Int32)), (4, .int (0 : Int32)), (0, .ref v0), (1, .ref v1), (2, .int v2), (3, .int v3)] dX12_near_4 (by decide) rfl ?_
  refine jv_sub [3, 4, 5, 1, 0] (ls' := [(1, .ref v1), (2, .int v2), (3, .int v3), (4, .int (0 : Int32)), (5, .int (0 : Int32))]) rfl ?_
  exact jv_pc 6 rfl (s_Md_near_1 hC hN _ _ _ _ _ _ _ _ hF)
set_option maxRecDepth 100000 in
set_option maxHeartbeats 4000000 in
theorem t_Md_findStains_11 {X : hm_X} {n : Nat} {S : hm_S} (hC : hm_C X RX12 cX12_findStains 8 (some .int) 5 n S) {k258 : Nat → Int32 → Int32 → hm_M → Option (Int32 × hm_M)} (hk258 : ∀ (v0 : Nat) (v5 : Int32) (v6 : Int32)  (M : hm_M) (r : Int32) (M' : hm_M), k258 v0 v5 v6 M = some (r, M') → hm_U X 258 [(0, .ref v0), (5, .int v5), (6, .int v6)] [] M (hm_Q X (some (.int r)) M')) {v0 : Nat} {v5 : Int32} {v6 : Int32} {M : hm_M} {r : Int32} {M' : hm_M} (hF : b_Md_findStains_11 S k258 v0 v5 v6 M = some (r, M')) : hm_U X 258 [(0, .ref v0), (5, .int v5), (6, .int v6)] [] M (hm_Q X (some (.int r)) M') := by
  unfold b_Md_findStains_11 at hF
  refine jv_iload hC 2 dX12_findStains_258 rfl ?_
  refine jv_bipush hC dX12_findStains_260 c8_64 ?_
  refine jv_icmp_ge hC 283 dX12_findStains_262 (by decide) (fun h1 => ?_) (fun h1 => ?_)
  · have hF := hi_pos h1 hF
    refine jv_iload hC 1 dX12_findStains_283 rfl ?_
    obtain ⟨rfl, rfl⟩ := hr_some hF
    exact jv_iret hC dX12_findStains_285
  · have hF := hi_neg h1 hF
    refine jv_iload hC 1 dX12_findStains_265 rfl ?_
    refine jv_aload_n hC 0 dX12_findStains_267 rfl ?_
    obtain ⟨g2, hF⟩ := hg_some hF
    obtain ⟨g3, hF⟩ := hg_some hF
    refine jv_getR hC fl_X12_127 dX12_findStains_268 rfl g2 g3 ?_
    refine jv_iload hC 2 dX12_findStains_271 rfl ?_
    obtain ⟨g4, hF⟩ := hg_some hF
    obtain ⟨n5, sn5, in5⟩ := hm_ib_ok g4
    refine jv_iaload hC dX12_findStains_273 sn5 in5 ?_
    refine jv_iadd hC dX12_findStains_274 ?_
    obtain ⟨x6, e7, hF⟩ := hl_some hF
    refine jv_topI e7 ?_
    refine jv_istore hC [(5, .int x6), (0, .ref v0), (6, .int v6)] dX12_findStains_275 (by decide) rfl ?_
    refine jv_pc 277 rfl ?_
    refine jv_iinc hC 2 [(6, .int (v6 + (1 : Int32))), (5, .int x6), (0, .ref v0)] dX12_findStains_277 rfl c32_1 (by decide) rfl ?_
    refine jv_goto hC 258 dX12_findStains_280 (by decide) ?_
    refine jv_sub [2, 1, 0] (ls' := [(0, .ref v0), (5, .int x6), (6, .int (v6 + (1 : Int32)))]) rfl ?_
    exact jv_pc 258 rfl (hk258 _ _ _ _ _ _ hF)
theorem s_Md_findStains_11 {X : hm_X} {n : Nat} {S : hm_S} (hC : hm_C X RX12 cX12_findStains 8 (some .int) 5 n S) : ∀ (q : Nat) (v0 : Nat) (v5 : Int32) (v6 : Int32) (M : hm_M) (r : Int32) (M' : hm_M), f_Md_findStains_11 S  q v0 v5 v6 M = some (r, M') → hm_U X 258 [(0, .ref v0), (5, .int v5), (6, .int v6)] [] M (hm_Q X (some (.int r)) M') := by
  intro q
  induction q with
  | zero => intro v0 v5 v6 M r M' hF; cases hF
  | succ q ih => intro v0 v5 v6 M r M' hF; exact t_Md_findStains_11 hC ih hF
set_option maxRecDepth 100000 in
set_option maxHeartbeats 4000000 in
theorem s_Md_findStains_10 {X : hm_X} {n : Nat} {S : hm_S} (hC : hm_C X RX12 cX12_findStains 8 (some .int) 5 n S) {k178 : Nat → Int32 → hm_M → Option (Int32 × hm_M)} (hk178 : ∀ (v0 : Nat) (v5 : Int32)  (M : hm_M) (r : Int32) (M' : hm_M), k178 v0 v5 M = some (r, M') → hm_U X 178 [(0, .ref v0), (5, .int v5)] [] M (hm_Q X (some (.int r)) M')) {k186 : Nat → Int32 → Int32 → hm_M → Option (Int32 × hm_M)} (hk186 : ∀ (v0 : Nat) (v5 : Int32) (v6 : Int32)  (M : hm_M) (r : Int32) (M' : hm_M), k186 v0 v5 v6 M = some (r, M') → hm_U X 186 [(0, .ref v0), (5, .int v5), (6, .int v6)] [] M (hm_Q X (some (.int r)) M')) {v0 : Nat} {v5 : Int32} {v6 : Int32} {s0 : Int32} {s1 : Int32} {s2 : Nat} {M : hm_M} {r : Int32} {M' : hm_M} (hF : b_Md_findStains_10 S k178 k186 v0 v5 v6 s0 s1 s2 M = some (r, M')) : hm_U X 239 [(0, .ref v0), (5, .int v5), (6, .int v6)] [.int s0, .int s1, .ref s2] M (hm_Q X (some (.int r)) M') := by
  unfold b_Md_findStains_10 at hF
  obtain ⟨g1, hF⟩ := hg_some hF
  obtain ⟨n2, sn2, in2⟩ := hm_ib_ok g1
  refine jv_iastore hC dX12_findStains_239 sn2 in2 ?_
  obtain ⟨M3, e4, hF⟩ := hl_some hF
  refine jv_mem e4 ?_
  refine jv_iinc hC 2 [(6, .int (v6 + (1 : Int32))), (0, .ref v0), (5, .int v5)] dX12_findStains_240 rfl c32_1 (by decide) rfl ?_
  refine jv_goto hC 186 dX12_findStains_243 (by decide) ?_
  refine jv_sub [1, 2, 0] (ls' := [(0, .ref v0), (5, .int v5), (6, .int (v6 + (1 : Int32)))]) rfl ?_
  exact jv_pc 186 rfl (hk186 _ _ _ _ _ _ hF)
set_option maxRecDepth 100000 in
set_option maxHeartbeats 4000000 in
theorem t_Md_findStains_9 {X : hm_X} {n : Nat} {S : hm_S} (hC : hm_C X RX12 cX12_findStains 8 (some .int) 5 n S) {k178 : Nat → Int32 → hm_M → Option (Int32 × hm_M)} (hk178 : ∀ (v0 : Nat) (v5 : Int32)  (M : hm_M) (r : Int32) (M' : hm_M), k178 v0 v5 M = some (r, M') → hm_U X 178 [(0, .ref v0), (5, .int v5)] [] M (hm_Q X (some (.int r)) M')) {k186 : Nat → Int32 → Int32 → hm_M → Option (Int32 × hm_M)} (hk186 : ∀ (v0 : Nat) (v5 : Int32) (v6 : Int32)  (M : hm_M) (r : Int32) (M' : hm_M), k186 v0 v5 v6 M = some (r, M') → hm_U X 186 [(0, .ref v0), (5, .int v5), (6, .int v6)] [] M (hm_Q X (some (.int r)) M')) {v0 : Nat} {v5 : Int32} {v6 : Int32} {M : hm_M} {r : Int32} {M' : hm_M} (hF : b_Md_findStains_9 S k178 k186 v0 v5 v6 M = some (r, M')) : hm_U X 186 [(0, .ref v0), (5, .int v5), (6, .int v6)] [] M (hm_Q X (some (.int r)) M') := by
  unfold b_Md_findStains_9 at hF
  refine jv_iload hC 2 dX12_findStains_186 rfl ?_
  refine jv_bipush hC dX12_findStains_188 c8_64 ?_
  refine jv_icmp_ge hC 246 dX12_findStains_190 (by decide) (fun h1 => ?_) (fun h1 => ?_)
  · have hF := hi_pos h1 hF
    refine jv_iinc hC 1 [(5, .int (v5 + (-1 : Int32))), (0, .ref v0), (6, .int v6)] dX12_findStains_246 rfl c32_m1 (by decide) rfl ?_
    refine jv_goto hC 178 dX12_findStains_249 (by decide) ?_
    refine jv_sub [1, 0] (ls' := [(0, .ref v0), (5, .int (v5 + (-1 : Int32)))]) rfl ?_
    exact jv_pc 178 rfl (hk178 _ _ _ _ _ hF)
  · have hF := hi_neg h1 hF
    refine jv_aload_n hC 0 dX12_findStains_193 rfl ?_
    obtain ⟨g2, hF⟩ := hg_some hF
    obtain ⟨g3, hF⟩ := hg_some hF
    refine jv_getR hC fl_X12_127 dX12_findStains_194 rfl g2 g3 ?_
    refine jv_bipush hC dX12_findStains_197 c8_64 ?_
    refine jv_iload hC 1 dX12_findStains_199 rfl ?_
    refine jv_imul hC dX12_findStains_201 ?_
    refine jv_iload hC 2 dX12_findStains_202 rfl ?_
    refine jv_iadd hC dX12_findStains_204 ?_
    refine jv_pc 205 rfl ?_
    refine jv_aload_n hC 0 dX12_findStains_205 rfl ?_
    refine jv_getR hC fl_X12_127 dX12_findStains_206 rfl g2 g3 ?_
    refine jv_bipush hC dX12_findStains_209 c8_64 ?_
    refine jv_iload hC 1 dX12_findStains_211 rfl ?_
    refine jv_imul hC dX12_findStains_213 ?_
    refine jv_iload hC 2 dX12_findStains_214 rfl ?_
    refine jv_iadd hC dX12_findStains_216 ?_
    obtain ⟨g4, hF⟩ := hg_some hF
    obtain ⟨n5, sn5, in5⟩ := hm_ib_ok g4
    refine jv_iaload hC dX12_findStains_217 sn5 in5 ?_
    refine jv_pc 218 rfl ?_
    refine jv_if_ne hC 225 dX12_findStains_218 (by decide) (fun h6 => ?_) (fun h6 => ?_)
    · have hF := hi_neg h6 hF
      refine jv_aload_n hC 0 dX12_findStains_225 rfl ?_
      refine jv_aload_n hC 0 dX12_findStains_226 rfl ?_
      refine jv_getR hC fl_X12_127 dX12_findStains_227 rfl g2 g3 ?_
      refine jv_iload hC 1 dX12_findStains_230 rfl ?_
      refine jv_iconst hC dX12_findStains_232 c32_1 ?_
      refine jv_iadd hC dX12_findStains_233 ?_
      refine jv_iload hC 2 dX12_findStains_234 rfl ?_
      refine jv_pc 236 rfl ?_
      obtain ⟨r9, M8, c7, hF⟩ := hb_some hF
      refine jv_callV hC (st := [.int (((64 : Int32) * v5) + v6), .ref (M.2.2 v0 32)]) [.ref (M.2.2 v0 32), .int (v5 + (1 : Int32)), .int v6] (k_Md_near c7) mm_Md_near mi_Md_near ml_X12_370 dX12_findStains_236 g2 rfl (Nat.le_of_ble_eq_true rfl) rfl rfl (Nat.le_of_ble_eq_true rfl) ?_
      refine jv_nf 239 [.int r9, .int (((64 : Int32) * v5) + v6), .ref (M.2.2 v0 32)] rfl rfl ?_
      exact jv_pc 239 rfl (s_Md_findStains_10 hC hk178 hk186 hF)
    · have hF := hi_pos h6 hF
      refine jv_iconst hC dX12_findStains_221 c32_0 ?_
      refine jv_goto hC 239 dX12_findStains_222 (by decide) ?_
      exact jv_pc 239 rfl (s_Md_findStains_10 hC hk178 hk186 hF)
