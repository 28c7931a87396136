/-! by program: the machine runs them -/
theorem s_Md_copies_1 {X : hm_X} {n : Nat} {S : hm_S} (hC : hm_C X RX12 cX12_copies 5 none 1 n S) : ∀ (q : Nat) (v0 : Nat) (v1 : Int32) (v2 : Int32) (v3 : Int32) (v4 : Int32) (M : hm_M) (M' : hm_M), f_Md_copies_1 S  q v0 v1 v2 v3 v4 M = some M' → hm_U X 3 [(0, .ref v0), (1, .int v1), (2, .int v2), (3, .int v3), (4, .int v4)] [] M (hm_Q X none M') := by
  intro q
  induction q with
  | zero => intro v0 v1 v2 v3 v4 M M' hF; cases hF
  | succ q ih => intro v0 v1 v2 v3 v4 M M' hF; exact t_Md_copies_1 hC ih hF
set_option maxRecDepth 100000 in
set_option maxHeartbeats 4000000 in
theorem k_Md_copies {n : Nat} {S : hm_S} {v0 : Nat} {v1 : Int32} {v2 : Int32} {v3 : Int32} {M : hm_M} {M' : hm_M} (hF : f_Md_copies S v0 v1 v2 v3 M = some M') : hm_KM yX12_copies cX12_copies 5 none 1 n S [.ref v0, .int v1, .int v2, .int v3] M none M' := by
  refine hm_enter mm_Md_copies (Nat.le_of_ble_eq_true rfl) (fun X hC => ?_)
  show hm_U X 0 [(0, .ref v0), (1, .int v1), (2, .int v2), (3, .int v3)] [] M _
  unfold f_Md_copies at hF
  refine jv_iconst hC dX12_copies_0 c32_0 ?_
  refine jv_istore hC [(4, .int (0 : Int32)), (0, .ref v0), (1, .int v1), (2, .int v2), (3, .int v3)] dX12_copies_1 (by decide) rfl ?_
  refine jv_sub [1, 2, 3, 4, 0] (ls' := [(0, .ref v0), (1, .int v1), (2, .int v2), (3, .int v3), (4, .int (0 : Int32))]) rfl ?_
  exact jv_pc 3 rfl (s_Md_copies_1 hC hN _ _ _ _ _ _ _ hF)
set_option maxRecDepth 100000 in
set_option maxHeartbeats 4000000 in
theorem s_Md_keeps_2 {X : hm_X} {n : Nat} {S : hm_S} (hC : hm_C X RX12 cX12_keeps 2 none 2 n S) {v0 : Nat} {M : hm_M} {M' : hm_M} (hF : b_Md_keeps_2 S v0 M = some M') : hm_U X 47 [(0, .ref v0)] [] M (hm_Q X none M') := by
  unfold b_Md_keeps_2 at hF
  refine jv_aload_n hC 0 dX12_keeps_47 rfl ?_
  refine jv_iconst hC dX12_keeps_48 c32_0 ?_
  refine jv_iconst hC dX12_keeps_49 c32_5 ?_
  refine jv_aload_n hC 0 dX12_keeps_50 rfl ?_
  obtain ⟨g1, hF⟩ := hg_some hF
  refine jv_getI hC fl_X12_201 dX12_keeps_51 rfl g1 ?_
  refine jv_iadd hC dX12_keeps_54 ?_
  refine jv_bipush hC dX12_keeps_55 c8_40 ?_
  refine jv_pc 57 rfl ?_
  obtain ⟨M3, c2, hF⟩ := hv_some hF
  refine jv_callV hC (st := []) [.int (0 : Int32), .int ((5 : Int32) + (M.1 v0 21)), .int (40 : Int32)] (k_Md_copies c2) mm_Md_copies mi_Md_copies ml_X12_262 dX12_keeps_57 g1 rfl (Nat.le_of_ble_eq_true rfl) rfl rfl (Nat.le_of_ble_eq_true rfl) ?_
  refine jv_nf 60 [] rfl rfl ?_
  refine jv_aload_n hC 0 dX12_keeps_60 rfl ?_
  refine jv_dup hC dX12_keeps_61 rfl ?_
  refine jv_getI hC fl_X12_201 dX12_keeps_62 rfl g1 ?_
  refine jv_iconst hC dX12_keeps_65 c32_1 ?_
  refine jv_iadd hC dX12_keeps_66 ?_
  refine jv_putI hC fl_X12_201 dX12_keeps_67 rfl rfl rfl g1 ?_
  obtain ⟨M4, e5, hF⟩ := hl_some hF
  refine jv_mem e5 ?_
  obtain rfl := hr_somev hF
  exact jv_vret hC dX12_keeps_70
set_option maxRecDepth 100000 in
set_option maxHeartbeats 4000000 in
theorem t_Md_keeps_1 {X : hm_X} {n : Nat} {S : hm_S} (hC : hm_C X RX12 cX12_keeps 2 none 2 n S) {k11 : Nat → Int32 → hm_M → Option hm_M} (hk11 : ∀ (v0 : Nat) (v1 : Int32)  (M : hm_M) (M' : hm_M), k11 v0 v1 M = some M' → hm_U X 11 [(0, .ref v0), (1, .int v1)] [] M (hm_Q X none M')) {v0 : Nat} {v1 : Int32} {M : hm_M} {M' : hm_M} (hF : b_Md_keeps_1 S k11 v0 v1 M = some M') : hm_U X 11 [(0, .ref v0), (1, .int v1)] [] M (hm_Q X none M') := by
  unfold b_Md_keeps_1 at hF
  refine jv_iload_n hC 1 dX12_keeps_11 rfl ?_
  refine jv_bipush hC dX12_keeps_12 c8_20 ?_
  refine jv_icmp_ge hC 37 dX12_keeps_14 (by decide) (fun h1 => ?_) (fun h1 => ?_)
  · have hF := hi_pos h1 hF
    refine jv_aload_n hC 0 dX12_keeps_37 rfl ?_
    refine jv_dup hC dX12_keeps_38 rfl ?_
    obtain ⟨g2, hF⟩ := hg_some hF
    refine jv_getI hC fl_X12_201 dX12_keeps_39 rfl g2 ?_
    refine jv_iconst hC dX12_keeps_42 c32_1 ?_
    refine jv_isub hC dX12_keeps_43 ?_
    refine jv_putI hC fl_X12_201 dX12_keeps_44 rfl rfl rfl g2 ?_
    obtain ⟨M3, e4, hF⟩ := hl_some hF
    refine jv_mem e4 ?_
    refine jv_sub [0] (ls' := [(0, .ref v0)]) rfl ?_
    exact jv_pc 47 rfl (s_Md_keeps_2 hC hF)
  · have hF := hi_neg h1 hF
    refine jv_aload_n hC 0 dX12_keeps_17 rfl ?_
    refine jv_iconst hC dX12_keeps_18 c32_5 ?_
    refine jv_iload_n hC 1 dX12_keeps_19 rfl ?_
    refine jv_iadd hC dX12_keeps_20 ?_
    refine jv_iconst hC dX12_keeps_21 c32_5 ?_
    refine jv_iload_n hC 1 dX12_keeps_22 rfl ?_
    refine jv_iadd hC dX12_keeps_23 ?_
    refine jv_pc 24 rfl ?_
    refine jv_iconst hC dX12_keeps_24 c32_1 ?_
    refine jv_isub hC dX12_keeps_25 ?_
    refine jv_bipush hC dX12_keeps_26 c8_40 ?_
    obtain ⟨g5, hF⟩ := hg_some hF
    obtain ⟨M7, c6, hF⟩ := hv_some hF
    refine jv_callV hC (st := []) [.int ((5 : Int32) + v1), .int (((5 : Int32) + v1) - (1 : Int32)), .int (40 : Int32)] (k_Md_copies c6) mm_Md_copies mi_Md_copies ml_X12_262 dX12_keeps_28 g5 rfl (Nat.le_of_ble_eq_true rfl) rfl rfl (Nat.le_of_ble_eq_true rfl) ?_
    refine jv_nf 31 [] rfl rfl ?_
    refine jv_iinc hC 1 [(1, .int (v1 + (1 : Int32))), (0, .ref v0)] dX12_keeps_31 rfl c32_1 (by decide) rfl ?_
    refine jv_goto hC 11 dX12_keeps_34 (by decide) ?_
    refine jv_sub [1, 0] (ls' := [(0, .ref v0), (1, .int (v1 + (1 : Int32)))]) rfl ?_
    exact jv_pc 11 rfl (hk11 _ _ _ _ hF)
theorem s_Md_keeps_1 {X : hm_X} {n : Nat} {S : hm_S} (hC : hm_C X RX12 cX12_keeps 2 none 2 n S) : ∀ (q : Nat) (v0 : Nat) (v1 : Int32) (M : hm_M) (M' : hm_M), f_Md_keeps_1 S  q v0 v1 M = some M' → hm_U X 11 [(0, .ref v0), (1, .int v1)] [] M (hm_Q X none M') := by
  intro q
  induction q with
  | zero => intro v0 v1 M M' hF; cases hF
  | succ q ih => intro v0 v1 M M' hF; exact t_Md_keeps_1 hC ih hF
set_option maxRecDepth 100000 in
set_option maxHeartbeats 4000000 in
theorem k_Md_keeps {n : Nat} {S : hm_S} {v0 : Nat} {M : hm_M} {M' : hm_M} (hF : f_Md_keeps S v0 M = some M') : hm_KM yX12_keeps cX12_keeps 2 none 2 n S [.ref v0] M none M' := by
  refine hm_enter mm_Md_keeps (Nat.le_of_ble_eq_true rfl) (fun X hC => ?_)
  show hm_U X 0 [(0, .ref v0)] [] M _
  unfold f_Md_keeps at hF
  refine jv_aload_n hC 0 dX12_keeps_0 rfl ?_
  obtain ⟨g1, hF⟩ := hg_some hF
  refine jv_getI hC fl_X12_201 dX12_keeps_1 rfl g1 ?_
  refine jv_bipush hC dX12_keeps_4 c8_20 ?_
  refine jv_icmp_ne hC 47 dX12_keeps_6 (by decide) (fun h2 => ?_) (fun h2 => ?_)
  · have hF := hi_neg h2 hF
    exact jv_pc 47 rfl (s_Md_keeps_2 hC hF)
  · have hF := hi_pos h2 hF
    refine jv_iconst hC dX12_keeps_9 c32_1 ?_
    refine jv_istore_n hC [(1, .int (1 : Int32)), (0, .ref v0)] dX12_keeps_10 (by decide) rfl ?_
    refine jv_sub [1, 0] (ls' := [(0, .ref v0), (1, .int (1 : Int32))]) rfl ?_
    exact jv_pc 11 rfl (s_Md_keeps_1 hC hN _ _ _ _ hF)
set_option maxRecDepth 100000 in
set_option maxHeartbeats 4000000 in
theorem k_Md_breaks {n : Nat} {S : hm_S} {v0 : Nat} {v1 : Int32} {v2 : Int32} {M : hm_M} {r : Int32} {M' : hm_M} (hF : f_Md_breaks S v0 v1 v2 M = some (r, M')) : hm_KM yX12_breaks cX12_breaks 3 (some .boolean) 3 n S [.ref v0, .int v1, .int v2] M (some (.int r)) M' := by
  refine hm_enter mm_Md_breaks (Nat.le_of_ble_eq_true rfl) (fun X hC => ?_)
  show hm_U X 0 [(0, .ref v0), (1, .int v1), (2, .int v2)] [] M _
  unfold f_Md_breaks at hF
  refine jv_aload_n hC 0 dX12_breaks_0 rfl ?_
  refine jv_iconst hC dX12_breaks_1 c32_0 ?_
  obtain ⟨g1, hF⟩ := hg_some hF
  refine jv_putI hC fl_X12_1 dX12_breaks_2 rfl rfl rfl g1 ?_
  obtain ⟨M2, e3, hF⟩ := hl_some hF
  refine jv_mem e3 ?_
  refine jv_aload_n hC 0 dX12_breaks_5 rfl ?_
  refine jv_iload_n hC 1 dX12_breaks_6 rfl ?_
  obtain ⟨r6, M5, c4, hF⟩ := hb_some hF
  refine jv_callV hC (st := []) [.int v1] (k_Md_isPane c4) mm_Md_isPane mi_Md_isPane ml_X12_314 dX12_breaks_7 g1 rfl (Nat.le_of_ble_eq_true rfl) rfl rfl (Nat.le_of_ble_eq_true rfl) ?_
  refine jv_nf 10 [.int r6] rfl rfl ?_
  refine jv_if_eq hC 22 dX12_breaks_10 (by decide) (fun h7 => ?_) (fun h7 => ?_)
  · have hF := hi_pos h7 hF
    refine jv_iconst hC dX12_breaks_22 c32_0 ?_
    obtain ⟨rfl, rfl⟩ := hr_some hF
    exact jv_zret hC (by decide) dX12_breaks_23
  · have hF := hi_neg h7 hF
    refine jv_aload_n hC 0 dX12_breaks_13 rfl ?_
    refine jv_iload_n hC 1 dX12_breaks_14 rfl ?_
    obtain ⟨r10, M9, c8, hF⟩ := hb_some hF
    refine jv_callV hC (st := []) [.int v1] (k_Md_isBroken c8) mm_Md_isBroken mi_Md_isBroken ml_X12_283 dX12_breaks_15 g1 rfl (Nat.le_of_ble_eq_true rfl) rfl rfl (Nat.le_of_ble_eq_true rfl) ?_
    refine jv_nf 18 [.int r10] rfl rfl ?_
    refine jv_iload_n hC 2 dX12_breaks_18 rfl ?_
    refine jv_icmp_eq hC 24 dX12_breaks_19 (by decide) (fun h11 => ?_) (fun h11 => ?_)
    · have hF := hi_pos h11 hF
      refine jv_aload_n hC 0 dX12_breaks_24 rfl ?_
      obtain ⟨M13, c12, hF⟩ := hv_some hF
      refine jv_callV hC (st := []) [] (k_Md_keeps c12) mm_Md_keeps mi_Md_keeps ml_X12_344 dX12_breaks_25 g1 rfl (Nat.le_of_ble_eq_true rfl) rfl rfl (Nat.le_of_ble_eq_true rfl) ?_
      refine jv_nf 28 [] rfl rfl ?_
      refine jv_aload_n hC 0 dX12_breaks_28 rfl ?_
      obtain ⟨g14, hF⟩ := hg_some hF
      refine jv_getR hC fl_X12_99 dX12_breaks_29 rfl g1 g14 ?_
      refine jv_bipush hC dX12_breaks_32 c8_12 ?_
      refine jv_dup2 hC dX12_breaks_34 rfl rfl ?_
      obtain ⟨g15, hF⟩ := hg_some hF
      obtain ⟨n16, sn16, in16⟩ := hm_ib_ok g15
      refine jv_iaload hC dX12_breaks_35 sn16 in16 ?_
      refine jv_iconst hC dX12_breaks_36 c32_1 ?_
      refine jv_iload_n hC 1 dX12_breaks_37 rfl ?_
      refine jv_pc 38 rfl ?_
      refine jv_ishl hC dX12_breaks_38 ?_
      refine jv_ixor hC dX12_breaks_39 ?_
      refine jv_iastore hC dX12_breaks_40 sn16 in16 ?_
      obtain ⟨M17, e18, hF⟩ := hl_some hF
      refine jv_mem e18 ?_
      refine jv_iconst hC dX12_breaks_41 c32_1 ?_
      obtain ⟨rfl, rfl⟩ := hr_some hF
      exact jv_zret hC (by decide) dX12_breaks_42
    · have hF := hi_neg h11 hF
      refine jv_iconst hC dX12_breaks_22 c32_0 ?_
      obtain ⟨rfl, rfl⟩ := hr_some hF
      exact jv_zret hC (by decide) dX12_breaks_23
set_option maxRecDepth 100000 in
set_option maxHeartbeats 4000000 in
theorem k_Md_within {n : Nat} {S : hm_S} {v0 : Int32} {v1 : Int32} {v2 : Int32} {M : hm_M} {r : Int32} {M' : hm_M} (hF : f_Md_within S v0 v1 v2 M = some (r, M')) : hm_KM yX12_within cX12_within 3 (some .boolean) 1 n S [.int v0, .int v1, .int v2] M (some (.int r)) M' := by
  refine hm_enter mm_Md_within (Nat.le_of_ble_eq_true rfl) (fun X hC => ?_)
  show hm_U X 0 [(0, .int v0), (1, .int v1), (2, .int v2)] [] M _
  unfold f_Md_within at hF
  refine jv_iload_n hC 0 dX12_within_0 rfl ?_
  refine jv_iload_n hC 1 dX12_within_1 rfl ?_
  refine jv_icmp_lt hC 14 dX12_within_2 (by decide) (fun h1 => ?_) (fun h1 => ?_)
  · have hF := hi_pos h1 hF
    refine jv_iconst hC dX12_within_14 c32_0 ?_
    obtain ⟨rfl, rfl⟩ := hr_some hF
    exact jv_zret hC (by decide) dX12_within_15
  · have hF := hi_neg h1 hF
    refine jv_iload_n hC 0 dX12_within_5 rfl ?_
    refine jv_iload_n hC 2 dX12_within_6 rfl ?_
    refine jv_icmp_gt hC 14 dX12_within_7 (by decide) (fun h2 => ?_) (fun h2 => ?_)
    · have hF := hi_pos h2 hF
      refine jv_iconst hC dX12_within_14 c32_0 ?_
      obtain ⟨rfl, rfl⟩ := hr_some hF
      exact jv_zret hC (by decide) dX12_within_15
    · have hF := hi_neg h2 hF
      refine jv_iconst hC dX12_within_10 c32_1 ?_
      refine jv_goto hC 15 dX12_within_11 (by decide) ?_
      obtain ⟨rfl, rfl⟩ := hr_some hF
      exact jv_zret hC (by decide) dX12_within_15
set_option maxRecDepth 100000 in
set_option maxHeartbeats 4000000 in
theorem k_Md_isTime {n : Nat} {S : hm_S} {v0 : Int32} {v1 : Int32} {M : hm_M} {r : Int32} {M' : hm_M} (hF : f_Md_isTime S v0 v1 M = some (r, M')) : hm_KM yX12_isTime cX12_isTime 2 (some .boolean) 2 n S [.int v0, .int v1] M (some (.int r)) M' := by
  refine hm_enter mm_Md_isTime (Nat.le_of_ble_eq_true rfl) (fun X hC => ?_)
  show hm_U X 0 [(0, .int v0), (1, .int v1)] [] M _
  unfold f_Md_isTime at hF
  refine jv_iload_n hC 0 dX12_isTime_0 rfl ?_
  refine jv_iconst hC dX12_isTime_1 c32_0 ?_
  refine jv_bipush hC dX12_isTime_2 c8_51 ?_
  obtain ⟨r3, M2, c1, hF⟩ := hb_some hF
  refine jv_callS hC (st := []) [.int v0, .int (0 : Int32), .int (51 : Int32)] (k_Md_within c1) mm_Md_within ms_Md_within ml_X12_272 dX12_isTime_4 (Nat.le_of_ble_eq_true rfl) rfl rfl (Nat.le_of_ble_eq_true rfl) ?_
  refine jv_nf 7 [.int r3] rfl rfl ?_
  refine jv_if_eq hC 24 dX12_isTime_7 (by decide) (fun h4 => ?_) (fun h4 => ?_)
  · have hF := hi_pos h4 hF
    refine jv_iconst hC dX12_isTime_24 c32_0 ?_
    obtain ⟨rfl, rfl⟩ := hr_some hF
    exact jv_zret hC (by decide) dX12_isTime_25
  · have hF := hi_neg h4 hF
    refine jv_iload_n hC 1 dX12_isTime_10 rfl ?_
    refine jv_iconst hC dX12_isTime_11 c32_0 ?_
    refine jv_bipush hC dX12_isTime_12 c8_23 ?_
    obtain ⟨r7, M6, c5, hF⟩ := hb_some hF
    refine jv_callS hC (st := []) [.int v1, .int (0 : Int32), .int (23 : Int32)] (k_Md_within c5) mm_Md_within ms_Md_within ml_X12_272 dX12_isTime_14 (Nat.le_of_ble_eq_true rfl) rfl rfl (Nat.le_of_ble_eq_true rfl) ?_
    refine jv_nf 17 [.int r7] rfl rfl ?_
    refine jv_if_eq hC 24 dX12_isTime_17 (by decide) (fun h8 => ?_) (fun h8 => ?_)
    · have hF := hi_pos h8 hF
      refine jv_iconst hC dX12_isTime_24 c32_0 ?_
      obtain ⟨rfl, rfl⟩ := hr_some hF
      exact jv_zret hC (by decide) dX12_isTime_25
    · have hF := hi_neg h8 hF
      refine jv_iconst hC dX12_isTime_20 c32_1 ?_
      refine jv_goto hC 25 dX12_isTime_21 (by decide) ?_
      obtain ⟨rfl, rfl⟩ := hr_some hF
      exact jv_zret hC (by decide) dX12_isTime_25
set_option maxRecDepth 100000 in
set_option maxHeartbeats 4000000 in
theorem k_Md_canStain {n : Nat} {S : hm_S} {v0 : Nat} {v1 : Int32} {v2 : Int32} {v3 : Int32} {v4 : Int32} {M : hm_M} {r : Int32} {M' : hm_M} (hF : f_Md_canStain S v0 v1 v2 v3 v4 M = some (r, M')) : hm_KM yX12_canStain cX12_canStain 5 (some .boolean) 3 n S [.ref v0, .int v1, .int v2, .int v3, .int v4] M (some (.int r)) M' := by
  refine hm_enter mm_Md_canStain (Nat.le_of_ble_eq_true rfl) (fun X hC => ?_)
  show hm_U X 0 [(0, .ref v0), (1, .int v1), (2, .int v2), (3, .int v3), (4, .int v4)] [] M _
  unfold f_Md_canStain at hF
  refine jv_iload_n hC 1 dX12_canStain_0 rfl ?_
  refine jv_iload_n hC 2 dX12_canStain_1 rfl ?_
  obtain ⟨r3, M2, c1, hF⟩ := hb_some hF
  refine jv_callS hC (st := []) [.int v1, .int v2] (k_Md_isTime c1) mm_Md_isTime ms_Md_isTime ml_X12_317 dX12_canStain_2 (Nat.le_of_ble_eq_true rfl) rfl rfl (Nat.le_of_ble_eq_true rfl) ?_
  refine jv_nf 5 [.int r3] rfl rfl ?_
  refine jv_if_eq hC 45 dX12_canStain_5 (by decide) (fun h4 => ?_) (fun h4 => ?_)
  · have hF := hi_pos h4 hF
    refine jv_iconst hC dX12_canStain_45 c32_0 ?_
    obtain ⟨rfl, rfl⟩ := hr_some hF
    exact jv_zret hC (by decide) dX12_canStain_46
  · have hF := hi_neg h4 hF
    refine jv_iload_n hC 3 dX12_canStain_8 rfl ?_
    refine jv_iconst hC dX12_canStain_9 c32_1 ?_
    refine jv_bipush hC dX12_canStain_10 c8_6 ?_
    obtain ⟨r7, M6, c5, hF⟩ := hb_some hF
    refine jv_callS hC (st := []) [.int v3, .int (1 : Int32), .int (6 : Int32)] (k_Md_within c5) mm_Md_within ms_Md_within ml_X12_272 dX12_canStain_12 (Nat.le_of_ble_eq_true rfl) rfl rfl (Nat.le_of_ble_eq_true rfl) ?_
    refine jv_nf 15 [.int r7] rfl rfl ?_
    refine jv_if_eq hC 45 dX12_canStain_15 (by decide) (fun h8 => ?_) (fun h8 => ?_)
    · have hF := hi_pos h8 hF
      refine jv_iconst hC dX12_canStain_45 c32_0 ?_
      obtain ⟨rfl, rfl⟩ := hr_some hF
      exact jv_zret hC (by decide) dX12_canStain_46
    · have hF := hi_neg h8 hF
      refine jv_iload_n hC 2 dX12_canStain_18 rfl ?_
      refine jv_iload_n hC 3 dX12_canStain_19 rfl ?_
      refine jv_iadd hC dX12_canStain_20 ?_
      refine jv_bipush hC dX12_canStain_21 c8_24 ?_
      refine jv_icmp_gt hC 45 dX12_canStain_23 (by decide) (fun h9 => ?_) (fun h9 => ?_)
      · have hF := hi_pos h9 hF
        refine jv_iconst hC dX12_canStain_45 c32_0 ?_
        obtain ⟨rfl, rfl⟩ := hr_some hF
        exact jv_zret hC (by decide) dX12_canStain_46
      · have hF := hi_neg h9 hF
        refine jv_iload hC 4 dX12_canStain_26 rfl ?_
        refine jv_if_lt hC 45 dX12_canStain_28 (by decide) (fun h10 => ?_) (fun h10 => ?_)
        · have hF := hi_pos h10 hF
          refine jv_iconst hC dX12_canStain_45 c32_0 ?_
          obtain ⟨rfl, rfl⟩ := hr_some hF
          exact jv_zret hC (by decide) dX12_canStain_46
        · have hF := hi_neg h10 hF
          refine jv_iload hC 4 dX12_canStain_31 rfl ?_
          refine jv_iconst hC dX12_canStain_33 c32_1 ?_
          refine jv_iconst hC dX12_canStain_34 c32_3 ?_
          refine jv_iload_n hC 3 dX12_canStain_35 rfl ?_
          refine jv_imul hC dX12_canStain_36 ?_
          refine jv_ishl hC dX12_canStain_37 ?_
          refine jv_icmp_ge hC 45 dX12_canStain_38 (by decide) (fun h11 => ?_) (fun h11 => ?_)
          · have hF := hi_pos h11 hF
            refine jv_iconst hC dX12_canStain_45 c32_0 ?_
            obtain ⟨rfl, rfl⟩ := hr_some hF
            exact jv_zret hC (by decide) dX12_canStain_46
          · have hF := hi_neg h11 hF
            refine jv_iconst hC dX12_canStain_41 c32_1 ?_
            refine jv_goto hC 46 dX12_canStain_42 (by decide) ?_
            obtain ⟨rfl, rfl⟩ := hr_some hF
            exact jv_zret hC (by decide) dX12_canStain_46
set_option maxRecDepth 100000 in
set_option maxHeartbeats 4000000 in
theorem k_Md_seens {n : Nat} {S : hm_S} {v0 : Nat} {M : hm_M} {r : Int32} {M' : hm_M} (hF : f_Md_seens S v0 M = some (r, M')) : hm_KM yX12_seens cX12_seens 1 (some .int) 1 n S [.ref v0] M (some (.int r)) M' := by
  refine hm_enter mm_Md_seens (Nat.le_of_ble_eq_true rfl) (fun X hC => ?_)
  show hm_U X 0 [(0, .ref v0)] [] M _
  unfold f_Md_seens at hF
  refine jv_aload_n hC 0 dX12_seens_0 rfl ?_
  obtain ⟨g1, hF⟩ := hg_some hF
  obtain ⟨g2, hF⟩ := hg_some hF
  refine jv_getR hC fl_X12_99 dX12_seens_1 rfl g1 g2 ?_
  refine jv_bipush hC dX12_seens_4 c8_13 ?_
  obtain ⟨g3, hF⟩ := hg_some hF
  obtain ⟨n4, sn4, in4⟩ := hm_ib_ok g3
  refine jv_iaload hC dX12_seens_6 sn4 in4 ?_
  obtain ⟨rfl, rfl⟩ := hr_some hF
  exact jv_iret hC dX12_seens_7
set_option maxRecDepth 100000 in
set_option maxHeartbeats 4000000 in
theorem s_Md_candlesAt_2 {X : hm_X} {n : Nat} {S : hm_S} (hC : hm_C X RX12 cX12_candlesAt 6 (some .int) 5 n S) {k11 : Nat → Int32 → Int32 → hm_M → Option (Int32 × hm_M)} (hk11 : ∀ (v0 : Nat) (v3 : Int32) (v4 : Int32)  (M : hm_M) (r : Int32) (M' : hm_M), k11 v0 v3 v4 M = some (r, M') → hm_U X 11 [(0, .ref v0), (3, .int v3), (4, .int v4)] [] M (hm_Q X (some (.int r)) M')) {v0 : Nat} {v4 : Int32} {s0 : Int32} {s1 : Int32} {M : hm_M} {r : Int32} {M' : hm_M} (hF : b_Md_candlesAt_2 S k11 v0 v4 s0 s1 M = some (r, M')) : hm_U X 72 [(0, .ref v0), (4, .int v4)] [.int s0, .int s1] M (hm_Q X (some (.int r)) M') := by
  unfold b_Md_candlesAt_2 at hF
  refine jv_iadd hC dX12_candlesAt_72 ?_
  obtain ⟨x1, e2, hF⟩ := hl_some hF
  refine jv_topI e2 ?_
  refine jv_istore_n hC [(3, .int x1), (0, .ref v0), (4, .int v4)] dX12_candlesAt_73 (by decide) rfl ?_
  refine jv_iinc hC 2 [(4, .int (v4 + (1 : Int32))), (3, .int x1), (0, .ref v0)] dX12_candlesAt_74 rfl c32_1 (by decide) rfl ?_
  refine jv_goto hC 11 dX12_candlesAt_77 (by decide) ?_
  refine jv_sub [2, 1, 0] (ls' := [(0, .ref v0), (3, .int x1), (4, .int (v4 + (1 : Int32)))]) rfl ?_
  exact jv_pc 11 rfl (hk11 _ _ _ _ _ _ hF)
set_option maxRecDepth 100000 in
set_option maxHeartbeats 4000000 in
theorem t_Md_candlesAt_1 {X : hm_X} {n : Nat} {S : hm_S} (hC : hm_C X RX12 cX12_candlesAt 6 (some .int) 5 n S) {k11 : Nat → Int32 → Int32 → hm_M → Option (Int32 × hm_M)} (hk11 : ∀ (v0 : Nat) (v3 : Int32) (v4 : Int32)  (M : hm_M) (r : Int32) (M' : hm_M), k11 v0 v3 v4 M = some (r, M') → hm_U X 11 [(0, .ref v0), (3, .int v3), (4, .int v4)] [] M (hm_Q X (some (.int r)) M')) {v0 : Nat} {v3 : Int32} {v4 : Int32} {M : hm_M} {r : Int32} {M' : hm_M} (hF : b_Md_candlesAt_1 S k11 v0 v3 v4 M = some (r, M')) : hm_U X 11 [(0, .ref v0), (3, .int v3), (4, .int v4)] [] M (hm_Q X (some (.int r)) M') := by
  unfold b_Md_candlesAt_1 at hF
  refine jv_iload hC 2 dX12_candlesAt_11 rfl ?_
  refine jv_aload_n hC 0 dX12_candlesAt_13 rfl ?_
  obtain ⟨g1, hF⟩ := hg_some hF
  obtain ⟨r4, M3, c2, hF⟩ := hb_some hF
  refine jv_callV hC (st := [.int v4]) [] (k_Md_seens c2) mm_Md_seens mi_Md_seens ml_X12_364 dX12_candlesAt_14 g1 rfl (Nat.le_of_ble_eq_true rfl) rfl rfl (Nat.le_of_ble_eq_true rfl) ?_
  refine jv_nf 17 [.int r4, .int v4] rfl rfl ?_
  refine jv_icmp_ge hC 80 dX12_candlesAt_17 (by decide) (fun h5 => ?_) (fun h5 => ?_)
  · have hF := hi_pos h5 hF
    refine jv_iload_n hC 1 dX12_candlesAt_80 rfl ?_
    obtain ⟨rfl, rfl⟩ := hr_some hF
    exact jv_iret hC dX12_candlesAt_81
  · have hF := hi_neg h5 hF
    refine jv_bipush hC dX12_candlesAt_20 c8_14 ?_
    refine jv_iconst hC dX12_candlesAt_22 c32_3 ?_
    refine jv_iload hC 2 dX12_candlesAt_23 rfl ?_
    refine jv_imul hC dX12_candlesAt_25 ?_
    refine jv_iadd hC dX12_candlesAt_26 ?_
    obtain ⟨x6, e7, hF⟩ := hl_some hF
    refine jv_topI e7 ?_
    refine jv_istore hC [(5, .int x6), (0, .ref v0), (3, .int v3), (4, .int v4)] dX12_candlesAt_27 (by decide) rfl ?_
    refine jv_iload_n hC 2 dX12_candlesAt_29 rfl ?_
    refine jv_pc 30 rfl ?_
    refine jv_aload_n hC 1 dX12_candlesAt_30 rfl ?_
    refine jv_bipush hC dX12_candlesAt_31 c8_8 ?_
    refine jv_aload_n hC 1 dX12_candlesAt_33 rfl ?_
    obtain ⟨g8, hF⟩ := hg_some hF
    refine jv_getR hC fl_X12_99 dX12_candlesAt_34 rfl g1 g8 ?_
    refine jv_iload hC 0 dX12_candlesAt_37 rfl ?_
    refine jv_iconst hC dX12_candlesAt_39 c32_1 ?_
    refine jv_iadd hC dX12_candlesAt_40 ?_
    obtain ⟨g9, hF⟩ := hg_some hF
    obtain ⟨n10, sn10, in10⟩ := hm_ib_ok g9
    refine jv_iaload hC dX12_candlesAt_41 sn10 in10 ?_
    refine jv_pc 42 rfl ?_
    refine jv_imul hC dX12_candlesAt_42 ?_
    refine jv_aload_n hC 1 dX12_candlesAt_43 rfl ?_
    refine jv_getR hC fl_X12_99 dX12_candlesAt_44 rfl g1 g8 ?_
    refine jv_iload hC 0 dX12_candlesAt_47 rfl ?_
    obtain ⟨g11, hF⟩ := hg_some hF
    obtain ⟨n12, sn12, in12⟩ := hm_ib_ok g11
    refine jv_iaload hC dX12_candlesAt_49 sn12 in12 ?_
    refine jv_iadd hC dX12_candlesAt_50 ?_
    refine jv_iconst hC dX12_candlesAt_51 c32_1 ?_
    obtain ⟨r15, M14, c13, hF⟩ := hb_some hF
    refine jv_callV hC (st := [.int v3]) [.int (((8 : Int32) * (M3.1 (M3.2.2 v0 20) (x6 + (1 : Int32)).toNatClampNeg)) + (M3.1 (M3.2.2 v0 20) x6.toNatClampNeg)), .int (1 : Int32)] (k_Md_lightAt c13) mm_Md_lightAt mi_Md_lightAt ml_X12_301 dX12_candlesAt_52 g1 rfl (Nat.le_of_ble_eq_true rfl) rfl rfl (Nat.le_of_ble_eq_true rfl) ?_
    refine jv_nf 55 [.int r15, .int v3] rfl rfl ?_
    refine jv_aload_n hC 1 dX12_candlesAt_55 rfl ?_
    obtain ⟨g16, hF⟩ := hg_some hF
    refine jv_getR hC fl_X12_99 dX12_candlesAt_56 rfl g1 g16 ?_
    refine jv_iload hC 0 dX12_candlesAt_59 rfl ?_
    refine jv_iconst hC dX12_candlesAt_61 c32_2 ?_
    refine jv_iadd hC dX12_candlesAt_62 ?_
    obtain ⟨g17, hF⟩ := hg_some hF
    obtain ⟨n18, sn18, in18⟩ := hm_ib_ok g17
    refine jv_iaload hC dX12_candlesAt_63 sn18 in18 ?_
    refine jv_icmp_eq hC 71 dX12_candlesAt_64 (by decide) (fun h19 => ?_) (fun h19 => ?_)
    · have hF := hi_pos h19 hF
      refine jv_iconst hC dX12_candlesAt_71 c32_0 ?_
      refine jv_sub [1, 3] (ls' := [(0, .ref v0), (4, .int v4)]) rfl ?_
      exact jv_pc 72 rfl (s_Md_candlesAt_2 hC hk11 hF)
    · have hF := hi_neg h19 hF
      refine jv_iconst hC dX12_candlesAt_67 c32_1 ?_
      refine jv_goto hC 72 dX12_candlesAt_68 (by decide) ?_
      refine jv_sub [1, 3] (ls' := [(0, .ref v0), (4, .int v4)]) rfl ?_
      exact jv_pc 72 rfl (s_Md_candlesAt_2 hC hk11 hF)
theorem s_Md_candlesAt_1 {X : hm_X} {n : Nat} {S : hm_S} (hC : hm_C X RX12 cX12_candlesAt 6 (some .int) 5 n S) : ∀ (q : Nat) (v0 : Nat) (v3 : Int32) (v4 : Int32) (M : hm_M) (r : Int32) (M' : hm_M), f_Md_candlesAt_1 S  q v0 v3 v4 M = some (r, M') → hm_U X 11 [(0, .ref v0), (3, .int v3), (4, .int v4)] [] M (hm_Q X (some (.int r)) M') := by
  intro q
  induction q with
  | zero => intro v0 v3 v4 M r M' hF; cases hF
  | succ q ih => intro v0 v3 v4 M r M' hF; exact t_Md_candlesAt_1 hC ih hF
set_option maxRecDepth 100000 in
set_option maxHeartbeats 4000000 in
theorem k_Md_candlesAt {n : Nat} {S : hm_S} {v0 : Nat} {v1 : Int32} {v2 : Int32} {M : hm_M} {r : Int32} {M' : hm_M} (hF : f_Md_candlesAt S v0 v1 v2 M = some (r, M')) : hm_KM yX12_candlesAt cX12_candlesAt 6 (some .int) 5 n S [.ref v0, .int v1, .int v2] M (some (.int r)) M' := by
  refine hm_enter mm_Md_candlesAt (Nat.le_of_ble_eq_true rfl) (fun X hC => ?_)
  show hm_U X 0 [(0, .ref v0), (1, .int v1), (2, .int v2)] [] M _
  unfold f_Md_candlesAt at hF
  refine jv_aload_n hC 0 dX12_candlesAt_0 rfl ?_
  refine jv_iload_n hC 1 dX12_candlesAt_1 rfl ?_
  refine jv_iload_n hC 2 dX12_candlesAt_2 rfl ?_
  obtain ⟨g1, hF⟩ := hg_some hF
  obtain ⟨M3, c2, hF⟩ := hv_some hF
  refine jv_callV hC (st := []) [.int v1, .int v2] (k_Md_findLight c2) mm_Md_findLight mi_Md_findLight ml_X12_298 dX12_candlesAt_3 g1 rfl (Nat.le_of_ble_eq_true rfl) rfl rfl (Nat.le_of_ble_eq_true rfl) ?_
  refine jv_nf 6 [] rfl rfl ?_
  refine jv_iconst hC dX12_candlesAt_6 c32_0 ?_
  refine jv_istore_n hC [(3, .int (0 : Int32)), (0, .ref v0), (1, .int v1), (2, .int v2)] dX12_candlesAt_7 (by decide) rfl ?_
  refine jv_iconst hC dX12_candlesAt_8 c32_0 ?_
  refine jv_istore hC [(4, .int (0 : Int32)), (3, .int (0 : Int32)), (0, .ref v0), (1, .int v1), (2, .int v2)] dX12_candlesAt_9 (by decide) rfl ?_
  refine jv_sub [2, 1, 0] (ls' := [(0, .ref v0), (3, .int (0 : Int32)), (4, .int (0 : Int32))]) rfl ?_
  exact jv_pc 11 rfl (s_Md_candlesAt_1 hC hN _ _ _ _ _ _ hF)
set_option maxRecDepth 100000 in
set_option maxHeartbeats 4000000 in
theorem k_Md_candles {n : Nat} {S : hm_S} {v0 : Nat} {v1 : Int32} {v2 : Int32} {M : hm_M} {r : Int32} {M' : hm_M} (hF : f_Md_candles S v0 v1 v2 M = some (r, M')) : hm_KM yX12_candles cX12_candles 3 (some .int) 6 n S [.ref v0, .int v1, .int v2] M (some (.int r)) M' := by
  refine hm_enter mm_Md_candles (Nat.le_of_ble_eq_true rfl) (fun X hC => ?_)
  show hm_U X 0 [(0, .ref v0), (1, .int v1), (2, .int v2)] [] M _
  unfold f_Md_candles at hF
  refine jv_aload_n hC 0 dX12_candles_0 rfl ?_
  refine jv_iconst hC dX12_candles_1 c32_0 ?_
  obtain ⟨g1, hF⟩ := hg_some hF
  refine jv_putI hC fl_X12_1 dX12_candles_2 rfl rfl rfl g1 ?_
  obtain ⟨M2, e3, hF⟩ := hl_some hF
  refine jv_mem e3 ?_
  refine jv_iload_n hC 1 dX12_candles_5 rfl ?_
  refine jv_iload_n hC 2 dX12_candles_6 rfl ?_
  obtain ⟨r6, M5, c4, hF⟩ := hb_some hF
  refine jv_callS hC (st := []) [.int v1, .int v2] (k_Md_isTime c4) mm_Md_isTime ms_Md_isTime ml_X12_317 dX12_candles_7 (Nat.le_of_ble_eq_true rfl) rfl rfl (Nat.le_of_ble_eq_true rfl) ?_
  refine jv_nf 10 [.int r6] rfl rfl ?_
  refine jv_if_eq hC 22 dX12_candles_10 (by decide) (fun h7 => ?_) (fun h7 => ?_)
  · have hF := hi_pos h7 hF
    refine jv_iconst hC dX12_candles_22 c32_m1 ?_
    obtain ⟨rfl, rfl⟩ := hr_some hF
    exact jv_iret hC dX12_candles_23
  · have hF := hi_neg h7 hF
    refine jv_aload_n hC 0 dX12_candles_13 rfl ?_
    refine jv_iload_n hC 1 dX12_candles_14 rfl ?_
    refine jv_iload_n hC 2 dX12_candles_15 rfl ?_
    obtain ⟨r10, M9, c8, hF⟩ := hb_some hF
    refine jv_callV hC (st := []) [.int v1, .int v2] (k_Md_candlesAt c8) mm_Md_candlesAt mi_Md_candlesAt ml_X12_367 dX12_candles_16 g1 rfl (Nat.le_of_ble_eq_true rfl) rfl rfl (Nat.le_of_ble_eq_true rfl) ?_
    refine jv_nf 19 [.int r10] rfl rfl ?_
    refine jv_goto hC 23 dX12_candles_19 (by decide) ?_
    obtain ⟨rfl, rfl⟩ := hr_some hF
    exact jv_iret hC dX12_candles_23
set_option maxRecDepth 100000 in
set_option maxHeartbeats 4000000 in
theorem k_Md_isLetter {n : Nat} {S : hm_S} {v0 : Int32} {M : hm_M} {r : Int32} {M' : hm_M} (hF : f_Md_isLetter S v0 M = some (r, M')) : hm_KM yX12_isLetter cX12_isLetter 1 (some .boolean) 1 n S [.int v0] M (some (.int r)) M' := by
  refine hm_enter mm_Md_isLetter (Nat.le_of_ble_eq_true rfl) (fun X hC => ?_)
  show hm_U X 0 [(0, .int v0)] [] M _
  unfold f_Md_isLetter at hF
  refine jv_iload_n hC 0 dX12_isLetter_0 rfl ?_
  refine jv_bipush hC dX12_isLetter_1 c8_97 ?_
  refine jv_icmp_lt hC 16 dX12_isLetter_3 (by decide) (fun h1 => ?_) (fun h1 => ?_)
  · have hF := hi_pos h1 hF
    refine jv_iconst hC dX12_isLetter_16 c32_0 ?_
    obtain ⟨rfl, rfl⟩ := hr_some hF
    exact jv_zret hC (by decide) dX12_isLetter_17
  · have hF := hi_neg h1 hF
    refine jv_iload_n hC 0 dX12_isLetter_6 rfl ?_
    refine jv_bipush hC dX12_isLetter_7 c8_122 ?_
    refine jv_icmp_gt hC 16 dX12_isLetter_9 (by decide) (fun h2 => ?_) (fun h2 => ?_)
    · have hF := hi_pos h2 hF
      refine jv_iconst hC dX12_isLetter_16 c32_0 ?_
      obtain ⟨rfl, rfl⟩ := hr_some hF
      exact jv_zret hC (by decide) dX12_isLetter_17
    · have hF := hi_neg h2 hF
      refine jv_iconst hC dX12_isLetter_12 c32_1 ?_
      refine jv_goto hC 17 dX12_isLetter_13 (by decide) ?_
      obtain ⟨rfl, rfl⟩ := hr_some hF
      exact jv_zret hC (by decide) dX12_isLetter_17
set_option maxRecDepth 100000 in
set_option maxHeartbeats 4000000 in
theorem k_Md_rank {n : Nat} {S : hm_S} {v0 : Int32} {M : hm_M} {r : Int32} {M' : hm_M} (hF : f_Md_rank S v0 M = some (r, M')) : hm_KM yX12_rank cX12_rank 1 (some .int) 2 n S [.int v0] M (some (.int r)) M' := by
  refine hm_enter mm_Md_rank (Nat.le_of_ble_eq_true rfl) (fun X hC => ?_)
  show hm_U X 0 [(0, .int v0)] [] M _
  unfold f_Md_rank at hF
  refine jv_iload_n hC 0 dX12_rank_0 rfl ?_
  obtain ⟨r3, M2, c1, hF⟩ := hb_some hF
  refine jv_callS hC (st := []) [.int v0] (k_Md_isLetter c1) mm_Md_isLetter ms_Md_isLetter ml_X12_133 dX12_rank_1 (Nat.le_of_ble_eq_true rfl) rfl rfl (Nat.le_of_ble_eq_true rfl) ?_
  refine jv_nf 4 [.int r3] rfl rfl ?_
  refine jv_if_eq hC 14 dX12_rank_4 (by decide) (fun h4 => ?_) (fun h4 => ?_)
  · have hF := hi_pos h4 hF
    refine jv_iload_n hC 0 dX12_rank_14 rfl ?_
    refine jv_bipush hC dX12_rank_15 c8_21 ?_
    refine jv_isub hC dX12_rank_17 ?_
    obtain ⟨rfl, rfl⟩ := hr_some hF
    exact jv_iret hC dX12_rank_18
  · have hF := hi_neg h4 hF
    refine jv_iload_n hC 0 dX12_rank_7 rfl ?_
    refine jv_bipush hC dX12_rank_8 c8_96 ?_
    refine jv_isub hC dX12_rank_10 ?_
    refine jv_goto hC 18 dX12_rank_11 (by decide) ?_
    obtain ⟨rfl, rfl⟩ := hr_some hF
    exact jv_iret hC dX12_rank_18
set_option maxRecDepth 100000 in
set_option maxHeartbeats 4000000 in
theorem k_Md_isDigit {n : Nat} {S : hm_S} {v0 : Int32} {M : hm_M} {r : Int32} {M' : hm_M} (hF : f_Md_isDigit S v0 M = some (r, M')) : hm_KM yX12_isDigit cX12_isDigit 1 (some .boolean) 1 n S [.int v0] M (some (.int r)) M' := by
  refine hm_enter mm_Md_isDigit (Nat.le_of_ble_eq_true rfl) (fun X hC => ?_)
  show hm_U X 0 [(0, .int v0)] [] M _
  unfold f_Md_isDigit at hF
  refine jv_iload_n hC 0 dX12_isDigit_0 rfl ?_
  refine jv_bipush hC dX12_isDigit_1 c8_48 ?_
  refine jv_icmp_lt hC 16 dX12_isDigit_3 (by decide) (fun h1 => ?_) (fun h1 => ?_)
  · have hF := hi_pos h1 hF
    refine jv_iconst hC dX12_isDigit_16 c32_0 ?_
    obtain ⟨rfl, rfl⟩ := hr_some hF
    exact jv_zret hC (by decide) dX12_isDigit_17
  · have hF := hi_neg h1 hF
    refine jv_iload_n hC 0 dX12_isDigit_6 rfl ?_
    refine jv_bipush hC dX12_isDigit_7 c8_57 ?_
    refine jv_icmp_gt hC 16 dX12_isDigit_9 (by decide) (fun h2 => ?_) (fun h2 => ?_)
    · have hF := hi_pos h2 hF
      refine jv_iconst hC dX12_isDigit_16 c32_0 ?_
      obtain ⟨rfl, rfl⟩ := hr_some hF
      exact jv_zret hC (by decide) dX12_isDigit_17
    · have hF := hi_neg h2 hF
      refine jv_iconst hC dX12_isDigit_12 c32_1 ?_
      refine jv_goto hC 17 dX12_isDigit_13 (by decide) ?_
      obtain ⟨rfl, rfl⟩ := hr_some hF
      exact jv_zret hC (by decide) dX12_isDigit_17
set_option maxRecDepth 100000 in
set_option maxHeartbeats 4000000 in
theorem k_Md_isSignOf {n : Nat} {S : hm_S} {v0 : Int32} {M : hm_M} {r : Int32} {M' : hm_M} (hF : f_Md_isSignOf S v0 M = some (r, M')) : hm_KM yX12_isSignOf cX12_isSignOf 1 (some .boolean) 1 n S [.int v0] M (some (.int r)) M' := by
  refine hm_enter mm_Md_isSignOf (Nat.le_of_ble_eq_true rfl) (fun X hC => ?_)
  show hm_U X 0 [(0, .int v0)] [] M _
  unfold f_Md_isSignOf at hF
  refine jv_iload_n hC 0 dX12_isSignOf_0 rfl ?_
  refine jv_bipush hC dX12_isSignOf_1 c8_40 ?_
  refine jv_icmp_eq hC 48 dX12_isSignOf_3 (by decide) (fun h1 => ?_) (fun h1 => ?_)
  · have hF := hi_pos h1 hF
    refine jv_iconst hC dX12_isSignOf_48 c32_1 ?_
    refine jv_goto hC 53 dX12_isSignOf_49 (by decide) ?_
    obtain ⟨rfl, rfl⟩ := hr_some hF
    exact jv_zret hC (by decide) dX12_isSignOf_53
  · have hF := hi_neg h1 hF
    refine jv_iload_n hC 0 dX12_isSignOf_6 rfl ?_
    refine jv_bipush hC dX12_isSignOf_7 c8_41 ?_
    refine jv_icmp_eq hC 48 dX12_isSignOf_9 (by decide) (fun h2 => ?_) (fun h2 => ?_)
    · have hF := hi_pos h2 hF
      refine jv_iconst hC dX12_isSignOf_48 c32_1 ?_
      refine jv_goto hC 53 dX12_isSignOf_49 (by decide) ?_
      obtain ⟨rfl, rfl⟩ := hr_some hF
      exact jv_zret hC (by decide) dX12_isSignOf_53
    · have hF := hi_neg h2 hF
      refine jv_iload_n hC 0 dX12_isSignOf_12 rfl ?_
      refine jv_bipush hC dX12_isSignOf_13 c8_59 ?_
      refine jv_icmp_eq hC 48 dX12_isSignOf_15 (by decide) (fun h3 => ?_) (fun h3 => ?_)
      · have hF := hi_pos h3 hF
        refine jv_iconst hC dX12_isSignOf_48 c32_1 ?_
        refine jv_goto hC 53 dX12_isSignOf_49 (by decide) ?_
        obtain ⟨rfl, rfl⟩ := hr_some hF
        exact jv_zret hC (by decide) dX12_isSignOf_53
      · have hF := hi_neg h3 hF
        refine jv_iload_n hC 0 dX12_isSignOf_18 rfl ?_
        refine jv_bipush hC dX12_isSignOf_19 c8_61 ?_
        refine jv_icmp_eq hC 48 dX12_isSignOf_21 (by decide) (fun h4 => ?_) (fun h4 => ?_)
        · have hF := hi_pos h4 hF
          refine jv_iconst hC dX12_isSignOf_48 c32_1 ?_
          refine jv_goto hC 53 dX12_isSignOf_49 (by decide) ?_
          obtain ⟨rfl, rfl⟩ := hr_some hF
          exact jv_zret hC (by decide) dX12_isSignOf_53
        · have hF := hi_neg h4 hF
          refine jv_iload_n hC 0 dX12_isSignOf_24 rfl ?_
          refine jv_bipush hC dX12_isSignOf_25 c8_60 ?_
          refine jv_icmp_eq hC 48 dX12_isSignOf_27 (by decide) (fun h5 => ?_) (fun h5 => ?_)
          · have hF := hi_pos h5 hF
            refine jv_iconst hC dX12_isSignOf_48 c32_1 ?_
            refine jv_goto hC 53 dX12_isSignOf_49 (by decide) ?_
            obtain ⟨rfl, rfl⟩ := hr_some hF
            exact jv_zret hC (by decide) dX12_isSignOf_53
          · have hF := hi_neg h5 hF
            refine jv_iload_n hC 0 dX12_isSignOf_30 rfl ?_
            refine jv_bipush hC dX12_isSignOf_31 c8_43 ?_
            refine jv_icmp_eq hC 48 dX12_isSignOf_33 (by decide) (fun h6 => ?_) (fun h6 => ?_)
            · have hF := hi_pos h6 hF
              refine jv_iconst hC dX12_isSignOf_48 c32_1 ?_
              refine jv_goto hC 53 dX12_isSignOf_49 (by decide) ?_
              obtain ⟨rfl, rfl⟩ := hr_some hF
              exact jv_zret hC (by decide) dX12_isSignOf_53
            · have hF := hi_neg h6 hF
              refine jv_iload_n hC 0 dX12_isSignOf_36 rfl ?_
              refine jv_bipush hC dX12_isSignOf_37 c8_45 ?_
              refine jv_icmp_eq hC 48 dX12_isSignOf_39 (by decide) (fun h7 => ?_) (fun h7 => ?_)
              · have hF := hi_pos h7 hF
                refine jv_iconst hC dX12_isSignOf_48 c32_1 ?_
                refine jv_goto hC 53 dX12_isSignOf_49 (by decide) ?_
                obtain ⟨rfl, rfl⟩ := hr_some hF
                exact jv_zret hC (by decide) dX12_isSignOf_53
              · have hF := hi_neg h7 hF
                refine jv_iload_n hC 0 dX12_isSignOf_42 rfl ?_
                refine jv_bipush hC dX12_isSignOf_43 c8_42 ?_
                refine jv_icmp_ne hC 52 dX12_isSignOf_45 (by decide) (fun h8 => ?_) (fun h8 => ?_)
                · have hF := hi_neg h8 hF
                  refine jv_iconst hC dX12_isSignOf_52 c32_0 ?_
                  obtain ⟨rfl, rfl⟩ := hr_some hF
                  exact jv_zret hC (by decide) dX12_isSignOf_53
                · have hF := hi_pos h8 hF
                  refine jv_iconst hC dX12_isSignOf_48 c32_1 ?_
                  refine jv_goto hC 53 dX12_isSignOf_49 (by decide) ?_
                  obtain ⟨rfl, rfl⟩ := hr_some hF
                  exact jv_zret hC (by decide) dX12_isSignOf_53
set_option maxRecDepth 100000 in
set_option maxHeartbeats 4000000 in
theorem s_Md_cutAll_11 {X : hm_X} {n : Nat} {S : hm_S} (hC : hm_C X RX12 cX12_cutAll 7 none 3 n S) {k17 : Nat → Int32 → Int32 → hm_M → Option hm_M} (hk17 : ∀ (v0 : Nat) (v1 : Int32) (v2 : Int32)  (M : hm_M) (M' : hm_M), k17 v0 v1 v2 M = some M' → hm_U X 17 [(0, .ref v0), (1, .int v1), (2, .int v2)] [] M (hm_Q X none M')) {v0 : Nat} {v1 : Int32} {v2 : Int32} {v5 : Int64} {M : hm_M} {M' : hm_M} (hF : b_Md_cutAll_11 S k17 v0 v1 v2 v5 M = some M') : hm_U X 265 [(0, .ref v0), (1, .int v1), (2, .int v2), (5, .long v5)] [] M (hm_Q X none M') := by
  unfold b_Md_cutAll_11 at hF
  refine jv_aload_n hC 0 dX12_cutAll_265 rfl ?_
  obtain ⟨g1, hF⟩ := hg_some hF
  obtain ⟨g2, hF⟩ := hg_some hF
  refine jv_getR hC fl_X12_30 dX12_cutAll_266 rfl g1 g2 ?_
  refine jv_iload_n hC 1 dX12_cutAll_269 rfl ?_
  refine jv_lload hC 3 dX12_cutAll_270 rfl ?_
  obtain ⟨g3, hF⟩ := hg_some hF
  obtain ⟨n4, sn4, in4⟩ := hm_ib_ok g3
  refine jv_lastore hC dX12_cutAll_272 sn4 in4 ?_
  obtain ⟨M5, e6, hF⟩ := hl_some hF
  refine jv_mem e6 ?_
  refine jv_iinc hC 1 [(1, .int (v1 + (1 : Int32))), (0, .ref v0), (2, .int v2), (5, .long v5)] dX12_cutAll_273 rfl c32_1 (by decide) rfl ?_
  refine jv_goto hC 17 dX12_cutAll_276 (by decide) ?_
  refine jv_sub [1, 0, 2] (ls' := [(0, .ref v0), (1, .int (v1 + (1 : Int32))), (2, .int v2)]) rfl ?_
  exact jv_pc 17 rfl (hk17 _ _ _ _ _ hF)
set_option maxRecDepth 100000 in
set_option maxHeartbeats 4000000 in
theorem s_Md_cutAll_10 {X : hm_X} {n : Nat} {S : hm_S} (hC : hm_C X RX12 cX12_cutAll 7 none 3 n S) {k17 : Nat → Int32 → Int32 → hm_M → Option hm_M} (hk17 : ∀ (v0 : Nat) (v1 : Int32) (v2 : Int32)  (M : hm_M) (M' : hm_M), k17 v0 v1 v2 M = some M' → hm_U X 17 [(0, .ref v0), (1, .int v1), (2, .int v2)] [] M (hm_Q X none M')) {v0 : Nat} {v1 : Int32} {v2 : Int32} {v5 : Int64} {s0 : Int32} {s1 : Int32} {s2 : Nat} {M : hm_M} {M' : hm_M} (hF : b_Md_cutAll_10 S k17 v0 v1 v2 v5 s0 s1 s2 M = some M') : hm_U X 261 [(0, .ref v0), (1, .int v1), (2, .int v2), (5, .long v5)] [.int s0, .int s1, .ref s2] M (hm_Q X none M') := by
  unfold b_Md_cutAll_10 at hF
  obtain ⟨g1, hF⟩ := hg_some hF
  obtain ⟨n2, sn2, in2⟩ := hm_ib_ok g1
  refine jv_iastore hC dX12_cutAll_261 sn2 in2 ?_
  obtain ⟨M3, e4, hF⟩ := hl_some hF
  refine jv_mem e4 ?_
  refine jv_iinc hC 2 [(2, .int (v2 + (1 : Int32))), (0, .ref v0), (1, .int v1), (5, .long v5)] dX12_cutAll_262 rfl c32_1 (by decide) rfl ?_
  refine jv_sub [1, 2, 0, 3] (ls' := [(0, .ref v0), (1, .int v1), (2, .int (v2 + (1 : Int32))), (5, .long v5)]) rfl ?_
  exact jv_pc 265 rfl (s_Md_cutAll_11 hC hk17 hF)
set_option maxRecDepth 100000 in
set_option maxHeartbeats 4000000 in
theorem s_Md_cutAll_9 {X : hm_X} {n : Nat} {S : hm_S} (hC : hm_C X RX12 cX12_cutAll 7 none 3 n S) {k17 : Nat → Int32 → Int32 → hm_M → Option hm_M} (hk17 : ∀ (v0 : Nat) (v1 : Int32) (v2 : Int32)  (M : hm_M) (M' : hm_M), k17 v0 v1 v2 M = some M' → hm_U X 17 [(0, .ref v0), (1, .int v1), (2, .int v2)] [] M (hm_Q X none M')) {v0 : Nat} {v1 : Int32} {v2 : Int32} {v5 : Int64} {s0 : Int32} {s1 : Int32} {s2 : Nat} {M : hm_M} {M' : hm_M} (hF : b_Md_cutAll_9 S k17 v0 v1 v2 v5 s0 s1 s2 M = some M') : hm_U X 236 [(0, .ref v0), (1, .int v1), (2, .int v2), (5, .long v5)] [.int s0, .int s1, .ref s2] M (hm_Q X none M') := by
  unfold b_Md_cutAll_9 at hF
  obtain ⟨g1, hF⟩ := hg_some hF
  obtain ⟨n2, sn2, in2⟩ := hm_ib_ok g1
  refine jv_iastore hC dX12_cutAll_236 sn2 in2 ?_
  obtain ⟨M3, e4, hF⟩ := hl_some hF
  refine jv_mem e4 ?_
  refine jv_goto hC 265 dX12_cutAll_237 (by decide) ?_
  exact jv_pc 265 rfl (s_Md_cutAll_11 hC hk17 hF)
set_option maxRecDepth 100000 in
set_option maxHeartbeats 4000000 in
theorem s_Md_cutAll_8 {X : hm_X} {n : Nat} {S : hm_S} (hC : hm_C X RX12 cX12_cutAll 7 none 3 n S) {k17 : Nat → Int32 → Int32 → hm_M → Option hm_M} (hk17 : ∀ (v0 : Nat) (v1 : Int32) (v2 : Int32)  (M : hm_M) (M' : hm_M), k17 v0 v1 v2 M = some M' → hm_U X 17 [(0, .ref v0), (1, .int v1), (2, .int v2)] [] M (hm_Q X none M')) {v0 : Nat} {v1 : Int32} {v2 : Int32} {v4 : Int32} {v5 : Int64} {M : hm_M} {M' : hm_M} (hF : b_Md_cutAll_8 S k17 v0 v1 v2 v4 v5 M = some M') : hm_U X 218 [(0, .ref v0), (1, .int v1), (2, .int v2), (4, .int v4), (5, .long v5)] [] M (hm_Q X none M') := by
  unfold b_Md_cutAll_8 at hF
  refine jv_aload_n hC 0 dX12_cutAll_218 rfl ?_
  obtain ⟨g1, hF⟩ := hg_some hF
  obtain ⟨g2, hF⟩ := hg_some hF
  refine jv_getR hC fl_X12_24 dX12_cutAll_219 rfl g1 g2 ?_
  refine jv_iload_n hC 1 dX12_cutAll_222 rfl ?_
  refine jv_iload_n hC 2 dX12_cutAll_223 rfl ?_
  refine jv_iload hC 3 dX12_cutAll_224 rfl ?_
  refine jv_isub hC dX12_cutAll_226 ?_
  refine jv_iconst hC dX12_cutAll_227 c32_4 ?_
  refine jv_pc 228 rfl ?_
  refine jv_icmp_le hC 235 dX12_cutAll_228 (by decide) (fun h3 => ?_) (fun h3 => ?_)
  · have hF := hi_pos h3 hF
    refine jv_iconst hC dX12_cutAll_235 c32_2 ?_
    refine jv_sub [0, 1, 2, 4] (ls' := [(0, .ref v0), (1, .int v1), (2, .int v2), (5, .long v5)]) rfl ?_
    exact jv_pc 236 rfl (s_Md_cutAll_9 hC hk17 hF)
  · have hF := hi_neg h3 hF
    refine jv_iconst hC dX12_cutAll_231 c32_4 ?_
    refine jv_goto hC 236 dX12_cutAll_232 (by decide) ?_
    refine jv_sub [0, 1, 2, 4] (ls' := [(0, .ref v0), (1, .int v1), (2, .int v2), (5, .long v5)]) rfl ?_
    exact jv_pc 236 rfl (s_Md_cutAll_9 hC hk17 hF)
set_option maxRecDepth 100000 in
set_option maxHeartbeats 4000000 in
theorem s_Md_cutAll_7 {X : hm_X} {n : Nat} {S : hm_S} (hC : hm_C X RX12 cX12_cutAll 7 none 3 n S) {k17 : Nat → Int32 → Int32 → hm_M → Option hm_M} (hk17 : ∀ (v0 : Nat) (v1 : Int32) (v2 : Int32)  (M : hm_M) (M' : hm_M), k17 v0 v1 v2 M = some M' → hm_U X 17 [(0, .ref v0), (1, .int v1), (2, .int v2)] [] M (hm_Q X none M')) {k159 : Nat → Int32 → Int32 → Int32 → Int64 → hm_M → Option hm_M} (hk159 : ∀ (v0 : Nat) (v1 : Int32) (v2 : Int32) (v4 : Int32) (v5 : Int64)  (M : hm_M) (M' : hm_M), k159 v0 v1 v2 v4 v5 M = some M' → hm_U X 159 [(0, .ref v0), (1, .int v1), (2, .int v2), (4, .int v4), (5, .long v5)] [] M (hm_Q X none M')) {v0 : Nat} {v1 : Int32} {v2 : Int32} {v4 : Int32} {s0 : Int64} {M : hm_M} {M' : hm_M} (hF : b_Md_cutAll_7 S k17 k159 v0 v1 v2 v4 s0 M = some M') : hm_U X 210 [(0, .ref v0), (1, .int v1), (2, .int v2), (4, .int v4)] [.long s0] M (hm_Q X none M') := by
  unfold b_Md_cutAll_7 at hF
  refine jv_lstore hC [(5, .long s0), (0, .ref v0), (1, .int v1), (2, .int v2), (4, .int v4)] dX12_cutAll_210 (by decide) rfl ?_
  refine jv_iinc hC 3 [(2, .int (v2 + (1 : Int32))), (5, .long s0), (0, .ref v0), (1, .int v1), (4, .int v4)] dX12_cutAll_212 rfl c32_1 (by decide) rfl ?_
  refine jv_goto hC 159 dX12_cutAll_215 (by decide) ?_
  refine jv_sub [2, 3, 0, 4, 1] (ls' := [(0, .ref v0), (1, .int v1), (2, .int (v2 + (1 : Int32))), (4, .int v4), (5, .long s0)]) rfl ?_
  exact jv_pc 159 rfl (hk159 _ _ _ _ _ _ _ hF)
set_option maxRecDepth 100000 in
set_option maxHeartbeats 4000000 in
theorem t_Md_cutAll_6 {X : hm_X} {n : Nat} {S : hm_S} (hC : hm_C X RX12 cX12_cutAll 7 none 3 n S) {k17 : Nat → Int32 → Int32 → hm_M → Option hm_M} (hk17 : ∀ (v0 : Nat) (v1 : Int32) (v2 : Int32)  (M : hm_M) (M' : hm_M), k17 v0 v1 v2 M = some M' → hm_U X 17 [(0, .ref v0), (1, .int v1), (2, .int v2)] [] M (hm_Q X none M')) {k159 : Nat → Int32 → Int32 → Int32 → Int64 → hm_M → Option hm_M} (hk159 : ∀ (v0 : Nat) (v1 : Int32) (v2 : Int32) (v4 : Int32) (v5 : Int64)  (M : hm_M) (M' : hm_M), k159 v0 v1 v2 v4 v5 M = some M' → hm_U X 159 [(0, .ref v0), (1, .int v1), (2, .int v2), (4, .int v4), (5, .long v5)] [] M (hm_Q X none M')) {v0 : Nat} {v1 : Int32} {v2 : Int32} {v4 : Int32} {v5 : Int64} {M : hm_M} {M' : hm_M} (hF : b_Md_cutAll_6 S k17 k159 v0 v1 v2 v4 v5 M = some M') : hm_U X 159 [(0, .ref v0), (1, .int v1), (2, .int v2), (4, .int v4), (5, .long v5)] [] M (hm_Q X none M') := by
  unfold b_Md_cutAll_6 at hF
  refine jv_iload_n hC 2 dX12_cutAll_159 rfl ?_
  refine jv_aload_n hC 0 dX12_cutAll_160 rfl ?_
  obtain ⟨g1, hF⟩ := hg_some hF
  refine jv_getI hC fl_X12_137 dX12_cutAll_161 rfl g1 ?_
  refine jv_icmp_ge hC 218 dX12_cutAll_164 (by decide) (fun h2 => ?_) (fun h2 => ?_)
  · have hF := hi_pos h2 hF
    exact jv_pc 218 rfl (s_Md_cutAll_8 hC hk17 hF)
  · have hF := hi_neg h2 hF
    refine jv_aload_n hC 0 dX12_cutAll_167 rfl ?_
    obtain ⟨g3, hF⟩ := hg_some hF
    refine jv_getR hC fl_X12_14 dX12_cutAll_168 rfl g1 g3 ?_
    refine jv_iload_n hC 2 dX12_cutAll_171 rfl ?_
    obtain ⟨g4, hF⟩ := hg_some hF
    obtain ⟨n5, sn5, in5⟩ := hm_ib_ok g4
    refine jv_iaload hC dX12_cutAll_172 sn5 in5 ?_
    obtain ⟨r8, M7, c6, hF⟩ := hb_some hF
    refine jv_callS hC (st := []) [.int (M.1 (M.2.2 v0 1) v2.toNatClampNeg)] (k_Md_isDigit c6) mm_Md_isDigit ms_Md_isDigit ml_X12_146 dX12_cutAll_173 (Nat.le_of_ble_eq_true rfl) rfl rfl (Nat.le_of_ble_eq_true rfl) ?_
    refine jv_nf 176 [.int r8] rfl rfl ?_
    refine jv_if_eq hC 218 dX12_cutAll_176 (by decide) (fun h9 => ?_) (fun h9 => ?_)
    · have hF := hi_pos h9 hF
      exact jv_pc 218 rfl (s_Md_cutAll_8 hC hk17 hF)
    · have hF := hi_neg h9 hF
      refine jv_iload_n hC 2 dX12_cutAll_179 rfl ?_
      refine jv_iload hC 3 dX12_cutAll_180 rfl ?_
      refine jv_isub hC dX12_cutAll_182 ?_
      refine jv_iconst hC dX12_cutAll_183 c32_4 ?_
      refine jv_icmp_ge hC 208 dX12_cutAll_184 (by decide) (fun h10 => ?_) (fun h10 => ?_)
      · have hF := hi_pos h10 hF
        refine jv_lload hC 4 dX12_cutAll_208 rfl ?_
        refine jv_sub [0, 1, 2, 3] (ls' := [(0, .ref v0), (1, .int v1), (2, .int v2), (4, .int v4)]) rfl ?_
        exact jv_pc 210 rfl (s_Md_cutAll_7 hC hk17 hk159 hF)
      · have hF := hi_neg h10 hF
        refine jv_ldc2 hC cl_X12_149 dX12_cutAll_187 ?_
        refine jv_lload hC 4 dX12_cutAll_190 rfl ?_
        refine jv_lmul hC dX12_cutAll_192 ?_
        refine jv_aload_n hC 0 dX12_cutAll_193 rfl ?_
        obtain ⟨g11, hF⟩ := hg_some hF
        refine jv_getR hC fl_X12_14 dX12_cutAll_194 rfl g1 g11 ?_
        refine jv_iload_n hC 2 dX12_cutAll_197 rfl ?_
        obtain ⟨g12, hF⟩ := hg_some hF
        obtain ⟨n13, sn13, in13⟩ := hm_ib_ok g12
        refine jv_iaload hC dX12_cutAll_198 sn13 in13 ?_
        refine jv_pc 199 rfl ?_
        refine jv_i2l hC dX12_cutAll_199 ?_
        refine jv_ladd hC dX12_cutAll_200 ?_
        refine jv_ldc2 hC cl_X12_151 dX12_cutAll_201 ?_
        refine jv_lsub hC dX12_cutAll_204 ?_
        refine jv_goto hC 210 dX12_cutAll_205 (by decide) ?_
        refine jv_sub [0, 1, 2, 3] (ls' := [(0, .ref v0), (1, .int v1), (2, .int v2), (4, .int v4)]) rfl ?_
        exact jv_pc 210 rfl (s_Md_cutAll_7 hC hk17 hk159 hF)
theorem s_Md_cutAll_6 {X : hm_X} {n : Nat} {S : hm_S} (hC : hm_C X RX12 cX12_cutAll 7 none 3 n S) {k17 : Nat → Int32 → Int32 → hm_M → Option hm_M} (hk17 : ∀ (v0 : Nat) (v1 : Int32) (v2 : Int32)  (M : hm_M) (M' : hm_M), k17 v0 v1 v2 M = some M' → hm_U X 17 [(0, .ref v0), (1, .int v1), (2, .int v2)] [] M (hm_Q X none M')) : ∀ (q : Nat) (v0 : Nat) (v1 : Int32) (v2 : Int32) (v4 : Int32) (v5 : Int64) (M : hm_M) (M' : hm_M), f_Md_cutAll_6 S k17 q v0 v1 v2 v4 v5 M = some M' → hm_U X 159 [(0, .ref v0), (1, .int v1), (2, .int v2), (4, .int v4), (5, .long v5)] [] M (hm_Q X none M') := by
  intro q
  induction q with
  | zero => intro v0 v1 v2 v4 v5 M M' hF; cases hF
  | succ q ih => intro v0 v1 v2 v4 v5 M M' hF; exact t_Md_cutAll_6 hC hk17 ih hF
set_option maxRecDepth 100000 in
set_option maxHeartbeats 4000000 in
theorem s_Md_cutAll_5 {X : hm_X} {n : Nat} {S : hm_S} (hC : hm_C X RX12 cX12_cutAll 7 none 3 n S) {k17 : Nat → Int32 → Int32 → hm_M → Option hm_M} (hk17 : ∀ (v0 : Nat) (v1 : Int32) (v2 : Int32)  (M : hm_M) (M' : hm_M), k17 v0 v1 v2 M = some M' → hm_U X 17 [(0, .ref v0), (1, .int v1), (2, .int v2)] [] M (hm_Q X none M')) {v0 : Nat} {v1 : Int32} {v2 : Int32} {v5 : Int64} {s0 : Int32} {s1 : Int32} {s2 : Nat} {M : hm_M} {M' : hm_M} (hF : b_Md_cutAll_5 S k17 v0 v1 v2 v5 s0 s1 s2 M = some M') : hm_U X 148 [(0, .ref v0), (1, .int v1), (2, .int v2), (5, .long v5)] [.int s0, .int s1, .ref s2] M (hm_Q X none M') := by
  unfold b_Md_cutAll_5 at hF
  obtain ⟨g1, hF⟩ := hg_some hF
  obtain ⟨n2, sn2, in2⟩ := hm_ib_ok g1
  refine jv_iastore hC dX12_cutAll_148 sn2 in2 ?_
  obtain ⟨M3, e4, hF⟩ := hl_some hF
  refine jv_mem e4 ?_
  refine jv_goto hC 265 dX12_cutAll_149 (by decide) ?_
  exact jv_pc 265 rfl (s_Md_cutAll_11 hC hk17 hF)
set_option maxRecDepth 100000 in
set_option maxHeartbeats 4000000 in
theorem s_Md_cutAll_4 {X : hm_X} {n : Nat} {S : hm_S} (hC : hm_C X RX12 cX12_cutAll 7 none 3 n S) {k17 : Nat → Int32 → Int32 → hm_M → Option hm_M} (hk17 : ∀ (v0 : Nat) (v1 : Int32) (v2 : Int32)  (M : hm_M) (M' : hm_M), k17 v0 v1 v2 M = some M' → hm_U X 17 [(0, .ref v0), (1, .int v1), (2, .int v2)] [] M (hm_Q X none M')) {v0 : Nat} {v1 : Int32} {v2 : Int32} {v4 : Int32} {v5 : Int64} {M : hm_M} {M' : hm_M} (hF : b_Md_cutAll_4 S k17 v0 v1 v2 v4 v5 M = some M') : hm_U X 129 [(0, .ref v0), (1, .int v1), (2, .int v2), (4, .int v4), (5, .long v5)] [] M (hm_Q X none M') := by
  unfold b_Md_cutAll_4 at hF
  refine jv_aload_n hC 0 dX12_cutAll_129 rfl ?_
  obtain ⟨g1, hF⟩ := hg_some hF
  obtain ⟨g2, hF⟩ := hg_some hF
  refine jv_getR hC fl_X12_24 dX12_cutAll_130 rfl g1 g2 ?_
  refine jv_iload_n hC 1 dX12_cutAll_133 rfl ?_
  refine jv_iload_n hC 2 dX12_cutAll_134 rfl ?_
  refine jv_iload hC 3 dX12_cutAll_135 rfl ?_
  refine jv_isub hC dX12_cutAll_137 ?_
  refine jv_bipush hC dX12_cutAll_138 c8_8 ?_
  refine jv_pc 140 rfl ?_
  refine jv_icmp_le hC 147 dX12_cutAll_140 (by decide) (fun h3 => ?_) (fun h3 => ?_)
  · have hF := hi_pos h3 hF
    refine jv_iconst hC dX12_cutAll_147 c32_1 ?_
    refine jv_sub [0, 1, 2, 4] (ls' := [(0, .ref v0), (1, .int v1), (2, .int v2), (5, .long v5)]) rfl ?_
    exact jv_pc 148 rfl (s_Md_cutAll_5 hC hk17 hF)
  · have hF := hi_neg h3 hF
    refine jv_iconst hC dX12_cutAll_143 c32_4 ?_
    refine jv_goto hC 148 dX12_cutAll_144 (by decide) ?_
    refine jv_sub [0, 1, 2, 4] (ls' := [(0, .ref v0), (1, .int v1), (2, .int v2), (5, .long v5)]) rfl ?_
    exact jv_pc 148 rfl (s_Md_cutAll_5 hC hk17 hF)
set_option maxRecDepth 100000 in
set_option maxHeartbeats 4000000 in
theorem s_Md_cutAll_3 {X : hm_X} {n : Nat} {S : hm_S} (hC : hm_C X RX12 cX12_cutAll 7 none 3 n S) {k17 : Nat → Int32 → Int32 → hm_M → Option hm_M} (hk17 : ∀ (v0 : Nat) (v1 : Int32) (v2 : Int32)  (M : hm_M) (M' : hm_M), k17 v0 v1 v2 M = some M' → hm_U X 17 [(0, .ref v0), (1, .int v1), (2, .int v2)] [] M (hm_Q X none M')) {k70 : Nat → Int32 → Int32 → Int32 → Int64 → hm_M → Option hm_M} (hk70 : ∀ (v0 : Nat) (v1 : Int32) (v2 : Int32) (v4 : Int32) (v5 : Int64)  (M : hm_M) (M' : hm_M), k70 v0 v1 v2 v4 v5 M = some M' → hm_U X 70 [(0, .ref v0), (1, .int v1), (2, .int v2), (4, .int v4), (5, .long v5)] [] M (hm_Q X none M')) {v0 : Nat} {v1 : Int32} {v2 : Int32} {v4 : Int32} {s0 : Int64} {M : hm_M} {M' : hm_M} (hF : b_Md_cutAll_3 S k17 k70 v0 v1 v2 v4 s0 M = some M') : hm_U X 121 [(0, .ref v0), (1, .int v1), (2, .int v2), (4, .int v4)] [.long s0] M (hm_Q X none M') := by
  unfold b_Md_cutAll_3 at hF
  refine jv_lstore hC [(5, .long s0), (0, .ref v0), (1, .int v1), (2, .int v2), (4, .int v4)] dX12_cutAll_121 (by decide) rfl ?_
  refine jv_iinc hC 3 [(2, .int (v2 + (1 : Int32))), (5, .long s0), (0, .ref v0), (1, .int v1), (4, .int v4)] dX12_cutAll_123 rfl c32_1 (by decide) rfl ?_
  refine jv_goto hC 70 dX12_cutAll_126 (by decide) ?_
  refine jv_sub [2, 3, 0, 4, 1] (ls' := [(0, .ref v0), (1, .int v1), (2, .int (v2 + (1 : Int32))), (4, .int v4), (5, .long s0)]) rfl ?_
  exact jv_pc 70 rfl (hk70 _ _ _ _ _ _ _ hF)
set_option maxRecDepth 100000 in
set_option maxHeartbeats 4000000 in
theorem t_Md_cutAll_2 {X : hm_X} {n : Nat} {S : hm_S} (hC : hm_C X RX12 cX12_cutAll 7 none 3 n S) {k17 : Nat → Int32 → Int32 → hm_M → Option hm_M} (hk17 : ∀ (v0 : Nat) (v1 : Int32) (v2 : Int32)  (M : hm_M) (M' : hm_M), k17 v0 v1 v2 M = some M' → hm_U X 17 [(0, .ref v0), (1, .int v1), (2, .int v2)] [] M (hm_Q X none M')) {k70 : Nat → Int32 → Int32 → Int32 → Int64 → hm_M → Option hm_M} (hk70 : ∀ (v0 : Nat) (v1 : Int32) (v2 : Int32) (v4 : Int32) (v5 : Int64)  (M : hm_M) (M' : hm_M), k70 v0 v1 v2 v4 v5 M = some M' → hm_U X 70 [(0, .ref v0), (1, .int v1), (2, .int v2), (4, .int v4), (5, .long v5)] [] M (hm_Q X none M')) {v0 : Nat} {v1 : Int32} {v2 : Int32} {v4 : Int32} {v5 : Int64} {M : hm_M} {M' : hm_M} (hF : b_Md_cutAll_2 S k17 k70 v0 v1 v2 v4 v5 M = some M') : hm_U X 70 [(0, .ref v0), (1, .int v1), (2, .int v2), (4, .int v4), (5, .long v5)] [] M (hm_Q X none M') := by
  unfold b_Md_cutAll_2 at hF
  refine jv_iload_n hC 2 dX12_cutAll_70 rfl ?_
  refine jv_aload_n hC 0 dX12_cutAll_71 rfl ?_
  obtain ⟨g1, hF⟩ := hg_some hF
  refine jv_getI hC fl_X12_137 dX12_cutAll_72 rfl g1 ?_
  refine jv_icmp_ge hC 129 dX12_cutAll_75 (by decide) (fun h2 => ?_) (fun h2 => ?_)
  · have hF := hi_pos h2 hF
    exact jv_pc 129 rfl (s_Md_cutAll_4 hC hk17 hF)
  · have hF := hi_neg h2 hF
    refine jv_aload_n hC 0 dX12_cutAll_78 rfl ?_
    obtain ⟨g3, hF⟩ := hg_some hF
    refine jv_getR hC fl_X12_14 dX12_cutAll_79 rfl g1 g3 ?_
    refine jv_iload_n hC 2 dX12_cutAll_82 rfl ?_
    obtain ⟨g4, hF⟩ := hg_some hF
    obtain ⟨n5, sn5, in5⟩ := hm_ib_ok g4
    refine jv_iaload hC dX12_cutAll_83 sn5 in5 ?_
    obtain ⟨r8, M7, c6, hF⟩ := hb_some hF
    refine jv_callS hC (st := []) [.int (M.1 (M.2.2 v0 1) v2.toNatClampNeg)] (k_Md_isLetter c6) mm_Md_isLetter ms_Md_isLetter ml_X12_133 dX12_cutAll_84 (Nat.le_of_ble_eq_true rfl) rfl rfl (Nat.le_of_ble_eq_true rfl) ?_
    refine jv_nf 87 [.int r8] rfl rfl ?_
    refine jv_if_eq hC 129 dX12_cutAll_87 (by decide) (fun h9 => ?_) (fun h9 => ?_)
    · have hF := hi_pos h9 hF
      exact jv_pc 129 rfl (s_Md_cutAll_4 hC hk17 hF)
    · have hF := hi_neg h9 hF
      refine jv_iload_n hC 2 dX12_cutAll_90 rfl ?_
      refine jv_iload hC 3 dX12_cutAll_91 rfl ?_
      refine jv_isub hC dX12_cutAll_93 ?_
      refine jv_bipush hC dX12_cutAll_94 c8_8 ?_
      refine jv_icmp_ge hC 119 dX12_cutAll_96 (by decide) (fun h10 => ?_) (fun h10 => ?_)
      · have hF := hi_pos h10 hF
        refine jv_lload hC 4 dX12_cutAll_119 rfl ?_
        refine jv_sub [0, 1, 2, 3] (ls' := [(0, .ref v0), (1, .int v1), (2, .int v2), (4, .int v4)]) rfl ?_
        exact jv_pc 121 rfl (s_Md_cutAll_3 hC hk17 hk70 hF)
      · have hF := hi_neg h10 hF
        refine jv_ldc2 hC cl_X12_140 dX12_cutAll_99 ?_
        refine jv_lload hC 4 dX12_cutAll_102 rfl ?_
        refine jv_lmul hC dX12_cutAll_104 ?_
        refine jv_aload_n hC 0 dX12_cutAll_105 rfl ?_
        obtain ⟨g11, hF⟩ := hg_some hF
        refine jv_getR hC fl_X12_14 dX12_cutAll_106 rfl g1 g11 ?_
        refine jv_iload_n hC 2 dX12_cutAll_109 rfl ?_
        obtain ⟨g12, hF⟩ := hg_some hF
        obtain ⟨n13, sn13, in13⟩ := hm_ib_ok g12
        refine jv_iaload hC dX12_cutAll_110 sn13 in13 ?_
        refine jv_pc 111 rfl ?_
        obtain ⟨r16, M15, c14, hF⟩ := hb_some hF
        refine jv_callS hC (st := [.long ((37 : Int64) * v5)]) [.int (M7.1 (M7.2.2 v0 1) v2.toNatClampNeg)] (k_Md_rank c14) mm_Md_rank ms_Md_rank ml_X12_142 dX12_cutAll_111 (Nat.le_of_ble_eq_true rfl) rfl rfl (Nat.le_of_ble_eq_true rfl) ?_
        refine jv_nf 114 [.int r16, .long ((37 : Int64) * v5)] rfl rfl ?_
        refine jv_i2l hC dX12_cutAll_114 ?_
        refine jv_ladd hC dX12_cutAll_115 ?_
        refine jv_goto hC 121 dX12_cutAll_116 (by decide) ?_
        refine jv_sub [0, 1, 2, 3] (ls' := [(0, .ref v0), (1, .int v1), (2, .int v2), (4, .int v4)]) rfl ?_
        exact jv_pc 121 rfl (s_Md_cutAll_3 hC hk17 hk70 hF)
theorem s_Md_cutAll_2 {X : hm_X} {n : Nat} {S : hm_S} (hC : hm_C X RX12 cX12_cutAll 7 none 3 n S) {k17 : Nat → Int32 → Int32 → hm_M → Option hm_M} (hk17 : ∀ (v0 : Nat) (v1 : Int32) (v2 : Int32)  (M : hm_M) (M' : hm_M), k17 v0 v1 v2 M = some M' → hm_U X 17 [(0, .ref v0), (1, .int v1), (2, .int v2)] [] M (hm_Q X none M')) : ∀ (q : Nat) (v0 : Nat) (v1 : Int32) (v2 : Int32) (v4 : Int32) (v5 : Int64) (M : hm_M) (M' : hm_M), f_Md_cutAll_2 S k17 q v0 v1 v2 v4 v5 M = some M' → hm_U X 70 [(0, .ref v0), (1, .int v1), (2, .int v2), (4, .int v4), (5, .long v5)] [] M (hm_Q X none M') := by
  intro q
  induction q with
  | zero => intro v0 v1 v2 v4 v5 M M' hF; cases hF
  | succ q ih => intro v0 v1 v2 v4 v5 M M' hF; exact t_Md_cutAll_2 hC hk17 ih hF
set_option maxRecDepth 100000 in
set_option maxHeartbeats 4000000 in
theorem t_Md_cutAll_1 {X : hm_X} {n : Nat} {S : hm_S} (hC : hm_C X RX12 cX12_cutAll 7 none 3 n S) {k17 : Nat → Int32 → Int32 → hm_M → Option hm_M} (hk17 : ∀ (v0 : Nat) (v1 : Int32) (v2 : Int32)  (M : hm_M) (M' : hm_M), k17 v0 v1 v2 M = some M' → hm_U X 17 [(0, .ref v0), (1, .int v1), (2, .int v2)] [] M (hm_Q X none M')) {v0 : Nat} {v1 : Int32} {v2 : Int32} {M : hm_M} {M' : hm_M} (hF : b_Md_cutAll_1 S k17 v0 v1 v2 M = some M') : hm_U X 17 [(0, .ref v0), (1, .int v1), (2, .int v2)] [] M (hm_Q X none M') := by
  unfold b_Md_cutAll_1 at hF
  refine jv_iload_n hC 2 dX12_cutAll_17 rfl ?_
  refine jv_aload_n hC 0 dX12_cutAll_18 rfl ?_
  obtain ⟨g1, hF⟩ := hg_some hF
  refine jv_getI hC fl_X12_137 dX12_cutAll_19 rfl g1 ?_
  refine jv_icmp_ge hC 279 dX12_cutAll_22 (by decide) (fun h2 => ?_) (fun h2 => ?_)
  · have hF := hi_pos h2 hF
    refine jv_aload_n hC 0 dX12_cutAll_279 rfl ?_
    obtain ⟨g3, hF⟩ := hg_some hF
    refine jv_getR hC fl_X12_24 dX12_cutAll_280 rfl g1 g3 ?_
    refine jv_iload_n hC 1 dX12_cutAll_283 rfl ?_
    refine jv_iconst hC dX12_cutAll_284 c32_0 ?_
    obtain ⟨g4, hF⟩ := hg_some hF
    obtain ⟨n5, sn5, in5⟩ := hm_ib_ok g4
    refine jv_iastore hC dX12_cutAll_285 sn5 in5 ?_
    obtain ⟨M6, e7, hF⟩ := hl_some hF
    refine jv_mem e7 ?_
    refine jv_aload_n hC 0 dX12_cutAll_286 rfl ?_
    obtain ⟨g8, hF⟩ := hg_some hF
    refine jv_getR hC fl_X12_27 dX12_cutAll_287 rfl g1 g8 ?_
    refine jv_pc 290 rfl ?_
    refine jv_iload_n hC 1 dX12_cutAll_290 rfl ?_
    refine jv_aload_n hC 0 dX12_cutAll_291 rfl ?_
    refine jv_getI hC fl_X12_137 dX12_cutAll_292 rfl g1 ?_
    obtain ⟨g9, hF⟩ := hg_some hF
    obtain ⟨n10, sn10, in10⟩ := hm_ib_ok g9
    refine jv_iastore hC dX12_cutAll_295 sn10 in10 ?_
    obtain ⟨M11, e12, hF⟩ := hl_some hF
    refine jv_mem e12 ?_
    refine jv_aload_n hC 0 dX12_cutAll_296 rfl ?_
    refine jv_iconst hC dX12_cutAll_297 c32_0 ?_
    refine jv_putI hC fl_X12_156 dX12_cutAll_298 rfl rfl rfl g1 ?_
    obtain ⟨M13, e14, hF⟩ := hl_some hF
    refine jv_mem e14 ?_
    refine jv_aload_n hC 0 dX12_cutAll_301 rfl ?_
    refine jv_pc 302 rfl ?_
    refine jv_iconst hC dX12_cutAll_302 c32_0 ?_
    refine jv_putI hC fl_X12_159 dX12_cutAll_303 rfl rfl rfl g1 ?_
    obtain ⟨M15, e16, hF⟩ := hl_some hF
    refine jv_mem e16 ?_
    obtain rfl := hr_somev hF
    exact jv_vret hC dX12_cutAll_306
  · have hF := hi_neg h2 hF
    refine jv_aload_n hC 0 dX12_cutAll_25 rfl ?_
    obtain ⟨g17, hF⟩ := hg_some hF
    refine jv_getR hC fl_X12_14 dX12_cutAll_26 rfl g1 g17 ?_
    refine jv_iload_n hC 2 dX12_cutAll_29 rfl ?_
    obtain ⟨g18, hF⟩ := hg_some hF
    obtain ⟨n19, sn19, in19⟩ := hm_ib_ok g18
    refine jv_iaload hC dX12_cutAll_30 sn19 in19 ?_
    obtain ⟨x20, e21, hF⟩ := hl_some hF
    refine jv_topI e21 ?_
    refine jv_istore_n hC [(3, .int x20), (0, .ref v0), (1, .int v1), (2, .int v2)] dX12_cutAll_31 (by decide) rfl ?_
    refine jv_iload_n hC 0 dX12_cutAll_32 rfl ?_
    refine jv_bipush hC dX12_cutAll_33 c8_10 ?_
    refine jv_pc 35 rfl ?_
    refine jv_icmp_eq hC 44 dX12_cutAll_35 (by decide) (fun h22 => ?_) (fun h22 => ?_)
    · have hF := hi_pos h22 hF
      refine jv_iinc hC 3 [(2, .int (v2 + (1 : Int32))), (3, .int x20), (0, .ref v0), (1, .int v1)] dX12_cutAll_44 rfl c32_1 (by decide) rfl ?_
      refine jv_goto hC 17 dX12_cutAll_47 (by decide) ?_
      refine jv_sub [2, 3, 0] (ls' := [(0, .ref v0), (1, .int v1), (2, .int (v2 + (1 : Int32)))]) rfl ?_
      exact jv_pc 17 rfl (hk17 _ _ _ _ _ hF)
    · have hF := hi_neg h22 hF
      refine jv_iload_n hC 0 dX12_cutAll_38 rfl ?_
      refine jv_bipush hC dX12_cutAll_39 c8_32 ?_
      refine jv_icmp_ne hC 50 dX12_cutAll_41 (by decide) (fun h23 => ?_) (fun h23 => ?_)
      · have hF := hi_neg h23 hF
        refine jv_iload_n hC 3 dX12_cutAll_50 rfl ?_
        refine jv_istore hC [(4, .int v2), (3, .int x20), (0, .ref v0), (1, .int v1), (2, .int v2)] dX12_cutAll_51 (by decide) rfl ?_
        refine jv_lconst hC (v := 0) dX12_cutAll_53 (by decide) ?_
        refine jv_lstore hC [(5, .long (0 : Int64)), (4, .int v2), (3, .int x20), (0, .ref v0), (1, .int v1), (2, .int v2)] dX12_cutAll_54 (by decide) rfl ?_
        refine jv_aload_n hC 3 dX12_cutAll_56 rfl ?_
        obtain ⟨g24, hF⟩ := hg_some hF
        refine jv_getR hC fl_X12_27 dX12_cutAll_57 rfl g1 g24 ?_
        refine jv_iload_n hC 4 dX12_cutAll_60 rfl ?_
        refine jv_pc 61 rfl ?_
        refine jv_iload_n hC 5 dX12_cutAll_61 rfl ?_
        obtain ⟨g25, hF⟩ := hg_some hF
        obtain ⟨n26, sn26, in26⟩ := hm_ib_ok g25
        refine jv_iastore hC dX12_cutAll_62 sn26 in26 ?_
        obtain ⟨M27, e28, hF⟩ := hl_some hF
        refine jv_mem e28 ?_
        refine jv_iload_n hC 2 dX12_cutAll_63 rfl ?_
        obtain ⟨r31, M30, c29, hF⟩ := hb_some hF
        refine jv_callS hC (st := []) [.int x20] (k_Md_isLetter c29) mm_Md_isLetter ms_Md_isLetter ml_X12_133 dX12_cutAll_64 (Nat.le_of_ble_eq_true rfl) rfl rfl (Nat.le_of_ble_eq_true rfl) ?_
        refine jv_nf 67 [.int r31] rfl rfl ?_
        refine jv_if_eq hC 152 dX12_cutAll_67 (by decide) (fun h32 => ?_) (fun h32 => ?_)
        · have hF := hi_pos h32 hF
          refine jv_iload_n hC 2 dX12_cutAll_152 rfl ?_
          obtain ⟨r35, M34, c33, hF⟩ := hb_some hF
          refine jv_callS hC (st := []) [.int x20] (k_Md_isDigit c33) mm_Md_isDigit ms_Md_isDigit ml_X12_146 dX12_cutAll_153 (Nat.le_of_ble_eq_true rfl) rfl rfl (Nat.le_of_ble_eq_true rfl) ?_
          refine jv_nf 156 [.int r35] rfl rfl ?_
          refine jv_if_eq hC 240 dX12_cutAll_156 (by decide) (fun h36 => ?_) (fun h36 => ?_)
          · have hF := hi_pos h36 hF
            refine jv_iload_n hC 2 dX12_cutAll_240 rfl ?_
            refine jv_i2l hC dX12_cutAll_241 ?_
            obtain ⟨x37, e38, hF⟩ := hl_some hF
            refine jv_topL e38 ?_
            refine jv_lstore hC [(5, .long x37), (4, .int v2), (3, .int x20), (0, .ref v0), (1, .int v1), (2, .int v2)] dX12_cutAll_242 (by decide) rfl ?_
            refine jv_aload_n hC 3 dX12_cutAll_244 rfl ?_
            obtain ⟨g39, hF⟩ := hg_some hF
            refine jv_getR hC fl_X12_24 dX12_cutAll_245 rfl g1 g39 ?_
            refine jv_iload_n hC 4 dX12_cutAll_248 rfl ?_
            refine jv_iload_n hC 2 dX12_cutAll_249 rfl ?_
            refine jv_pc 250 rfl ?_
            obtain ⟨r42, M41, c40, hF⟩ := hb_some hF
            refine jv_callS hC (st := [.int v1, .ref (M34.2.2 v0 4)]) [.int x20] (k_Md_isSignOf c40) mm_Md_isSignOf ms_Md_isSignOf ml_X12_153 dX12_cutAll_250 (Nat.le_of_ble_eq_true rfl) rfl rfl (Nat.le_of_ble_eq_true rfl) ?_
            refine jv_nf 253 [.int r42, .int v1, .ref (M34.2.2 v0 4)] rfl rfl ?_
            refine jv_if_eq hC 260 dX12_cutAll_253 (by decide) (fun h43 => ?_) (fun h43 => ?_)
            · have hF := hi_pos h43 hF
              refine jv_iconst hC dX12_cutAll_260 c32_4 ?_
              refine jv_sub [3, 4, 5, 0] (ls' := [(0, .ref v0), (1, .int v1), (2, .int v2), (5, .long x37)]) rfl ?_
              exact jv_pc 261 rfl (s_Md_cutAll_10 hC hk17 hF)
            · have hF := hi_neg h43 hF
              refine jv_iconst hC dX12_cutAll_256 c32_3 ?_
              refine jv_goto hC 261 dX12_cutAll_257 (by decide) ?_
              refine jv_sub [3, 4, 5, 0] (ls' := [(0, .ref v0), (1, .int v1), (2, .int v2), (5, .long x37)]) rfl ?_
              exact jv_pc 261 rfl (s_Md_cutAll_10 hC hk17 hF)
          · have hF := hi_neg h36 hF
            refine jv_sub [3, 4, 5, 1, 0] (ls' := [(0, .ref v0), (1, .int v1), (2, .int v2), (4, .int v2), (5, .long (0 : Int64))]) rfl ?_
            exact jv_pc 159 rfl (s_Md_cutAll_6 hC hk17 hN _ _ _ _ _ _ _ hF)
        · have hF := hi_neg h32 hF
          refine jv_sub [3, 4, 5, 1, 0] (ls' := [(0, .ref v0), (1, .int v1), (2, .int v2), (4, .int v2), (5, .long (0 : Int64))]) rfl ?_
          exact jv_pc 70 rfl (s_Md_cutAll_2 hC hk17 hN _ _ _ _ _ _ _ hF)
      · have hF := hi_pos h23 hF
        refine jv_iinc hC 3 [(2, .int (v2 + (1 : Int32))), (3, .int x20), (0, .ref v0), (1, .int v1)] dX12_cutAll_44 rfl c32_1 (by decide) rfl ?_
        refine jv_goto hC 17 dX12_cutAll_47 (by decide) ?_
        refine jv_sub [2, 3, 0] (ls' := [(0, .ref v0), (1, .int v1), (2, .int (v2 + (1 : Int32)))]) rfl ?_
        exact jv_pc 17 rfl (hk17 _ _ _ _ _ hF)
theorem s_Md_cutAll_1 {X : hm_X} {n : Nat} {S : hm_S} (hC : hm_C X RX12 cX12_cutAll 7 none 3 n S) : ∀ (q : Nat) (v0 : Nat) (v1 : Int32) (v2 : Int32) (M : hm_M) (M' : hm_M), f_Md_cutAll_1 S  q v0 v1 v2 M = some M' → hm_U X 17 [(0, .ref v0), (1, .int v1), (2, .int v2)] [] M (hm_Q X none M') := by
  intro q
  induction q with
  | zero => intro v0 v1 v2 M M' hF; cases hF
  | succ q ih => intro v0 v1 v2 M M' hF; exact t_Md_cutAll_1 hC ih hF
set_option maxRecDepth 100000 in
set_option maxHeartbeats 4000000 in
theorem k_Md_cutAll {n : Nat} {S : hm_S} {v0 : Nat} {M : hm_M} {M' : hm_M} (hF : f_Md_cutAll S v0 M = some M') : hm_KM yX12_cutAll cX12_cutAll 7 none 3 n S [.ref v0] M none M' := by
  refine hm_enter mm_Md_cutAll (Nat.le_of_ble_eq_true rfl) (fun X hC => ?_)
  show hm_U X 0 [(0, .ref v0)] [] M _
  unfold f_Md_cutAll at hF
  refine jv_aload_n hC 0 dX12_cutAll_0 rfl ?_
  refine jv_aload_n hC 0 dX12_cutAll_1 rfl ?_
  obtain ⟨g1, hF⟩ := hg_some hF
  refine jv_getI hC fl_X12_11 dX12_cutAll_2 rfl g1 ?_
  refine jv_putI hC fl_X12_137 dX12_cutAll_5 rfl rfl rfl g1 ?_
  obtain ⟨M2, e3, hF⟩ := hl_some hF
  refine jv_mem e3 ?_
  refine jv_aload_n hC 0 dX12_cutAll_8 rfl ?_
  refine jv_iconst hC dX12_cutAll_9 c32_0 ?_
  refine jv_putI hC fl_X12_11 dX12_cutAll_10 rfl rfl rfl g1 ?_
  obtain ⟨M4, e5, hF⟩ := hl_some hF
  refine jv_mem e5 ?_
  refine jv_pc 13 rfl ?_
  refine jv_iconst hC dX12_cutAll_13 c32_0 ?_
  refine jv_istore_n hC [(1, .int (0 : Int32)), (0, .ref v0)] dX12_cutAll_14 (by decide) rfl ?_
  refine jv_iconst hC dX12_cutAll_15 c32_0 ?_
  refine jv_istore_n hC [(2, .int (0 : Int32)), (1, .int (0 : Int32)), (0, .ref v0)] dX12_cutAll_16 (by decide) rfl ?_
  refine jv_sub [2, 1, 0] (ls' := [(0, .ref v0), (1, .int (0 : Int32)), (2, .int (0 : Int32))]) rfl ?_
  exact jv_pc 17 rfl (s_Md_cutAll_1 hC hN _ _ _ _ _ hF)
set_option maxRecDepth 100000 in
set_option maxHeartbeats 4000000 in
theorem k_Md_wrong {n : Nat} {S : hm_S} {v0 : Nat} {v1 : Int32} {M : hm_M} {M' : hm_M} (hF : f_Md_wrong S v0 v1 M = some M') : hm_KM yX12_wrong cX12_wrong 2 none 1 n S [.ref v0, .int v1] M none M' := by
  refine hm_enter mm_Md_wrong (Nat.le_of_ble_eq_true rfl) (fun X hC => ?_)
  show hm_U X 0 [(0, .ref v0), (1, .int v1)] [] M _
  unfold f_Md_wrong at hF
  refine jv_aload_n hC 0 dX12_wrong_0 rfl ?_
  obtain ⟨g1, hF⟩ := hg_some hF
  refine jv_getI hC fl_X12_159 dX12_wrong_1 rfl g1 ?_
  refine jv_if_ne hC 25 dX12_wrong_4 (by decide) (fun h2 => ?_) (fun h2 => ?_)
  · have hF := hi_neg h2 hF
    obtain rfl := hr_somev hF
    exact jv_vret hC dX12_wrong_25
  · have hF := hi_pos h2 hF
    refine jv_aload_n hC 0 dX12_wrong_7 rfl ?_
    refine jv_iload_n hC 1 dX12_wrong_8 rfl ?_
    refine jv_bipush hC dX12_wrong_9 c8_16 ?_
    refine jv_aload_n hC 0 dX12_wrong_11 rfl ?_
    obtain ⟨g3, hF⟩ := hg_some hF
    refine jv_getR hC fl_X12_27 dX12_wrong_12 rfl g1 g3 ?_
    refine jv_aload_n hC 0 dX12_wrong_15 rfl ?_
    refine jv_getI hC fl_X12_156 dX12_wrong_16 rfl g1 ?_
    refine jv_pc 19 rfl ?_
    obtain ⟨g4, hF⟩ := hg_some hF
    obtain ⟨n5, sn5, in5⟩ := hm_ib_ok g4
    refine jv_iaload hC dX12_wrong_19 sn5 in5 ?_
    refine jv_imul hC dX12_wrong_20 ?_
    refine jv_iadd hC dX12_wrong_21 ?_
    refine jv_putI hC fl_X12_159 dX12_wrong_22 rfl rfl rfl g1 ?_
    obtain ⟨M6, e7, hF⟩ := hl_some hF
    refine jv_mem e7 ?_
    obtain rfl := hr_somev hF
    exact jv_vret hC dX12_wrong_25
set_option maxRecDepth 100000 in
set_option maxHeartbeats 4000000 in
theorem s_Md_takeNumber_3 {X : hm_X} {n : Nat} {S : hm_S} (hC : hm_C X RX12 cX12_takeNumber 3 (some .int) 2 n S) {v0 : Nat} {M : hm_M} {r : Int32} {M' : hm_M} (hF : b_Md_takeNumber_3 S v0 M = some (r, M')) : hm_U X 70 [(0, .ref v0)] [] M (hm_Q X (some (.int r)) M') := by
  unfold b_Md_takeNumber_3 at hF
  refine jv_aload_n hC 0 dX12_takeNumber_70 rfl ?_
  obtain ⟨g1, hF⟩ := hg_some hF
  refine jv_getI hC fl_X12_159 dX12_takeNumber_71 rfl g1 ?_
  refine jv_if_le hC 79 dX12_takeNumber_74 (by decide) (fun h2 => ?_) (fun h2 => ?_)
  · have hF := hi_pos h2 hF
    refine jv_aload_n hC 0 dX12_takeNumber_79 rfl ?_
    refine jv_dup hC dX12_takeNumber_80 rfl ?_
    refine jv_getI hC fl_X12_156 dX12_takeNumber_81 rfl g1 ?_
    refine jv_iconst hC dX12_takeNumber_84 c32_1 ?_
    refine jv_iadd hC dX12_takeNumber_85 ?_
    refine jv_putI hC fl_X12_156 dX12_takeNumber_86 rfl rfl rfl g1 ?_
    obtain ⟨M3, e4, hF⟩ := hl_some hF
    refine jv_mem e4 ?_
    refine jv_aload_n hC 0 dX12_takeNumber_89 rfl ?_
    refine jv_pc 90 rfl ?_
    obtain ⟨g5, hF⟩ := hg_some hF
    refine jv_getR hC fl_X12_30 dX12_takeNumber_90 rfl g1 g5 ?_
    refine jv_aload_n hC 0 dX12_takeNumber_93 rfl ?_
    refine jv_getI hC fl_X12_156 dX12_takeNumber_94 rfl g1 ?_
    refine jv_iconst hC dX12_takeNumber_97 c32_1 ?_
    refine jv_isub hC dX12_takeNumber_98 ?_
    obtain ⟨g6, hF⟩ := hg_some hF
    obtain ⟨n7, sn7, in7⟩ := hm_ib_ok g6
    refine jv_laload hC dX12_takeNumber_99 sn7 in7 ?_
    refine jv_l2i hC dX12_takeNumber_100 ?_
    obtain ⟨rfl, rfl⟩ := hr_some hF
    exact jv_iret hC dX12_takeNumber_101
  · have hF := hi_neg h2 hF
    refine jv_iconst hC dX12_takeNumber_77 c32_0 ?_
    obtain ⟨rfl, rfl⟩ := hr_some hF
    exact jv_iret hC dX12_takeNumber_78
set_option maxRecDepth 100000 in
set_option maxHeartbeats 4000000 in
theorem s_Md_takeNumber_2 {X : hm_X} {n : Nat} {S : hm_S} (hC : hm_C X RX12 cX12_takeNumber 3 (some .int) 2 n S) {v0 : Nat} {M : hm_M} {r : Int32} {M' : hm_M} (hF : b_Md_takeNumber_2 S v0 M = some (r, M')) : hm_U X 65 [(0, .ref v0)] [] M (hm_Q X (some (.int r)) M') := by
  unfold b_Md_takeNumber_2 at hF
  refine jv_aload_n hC 0 dX12_takeNumber_65 rfl ?_
  refine jv_iconst hC dX12_takeNumber_66 c32_4 ?_
  obtain ⟨g1, hF⟩ := hg_some hF
  obtain ⟨M3, c2, hF⟩ := hv_some hF
  refine jv_callV hC (st := []) [.int (4 : Int32)] (k_Md_wrong c2) mm_Md_wrong mi_Md_wrong ml_X12_165 dX12_takeNumber_67 g1 rfl (Nat.le_of_ble_eq_true rfl) rfl rfl (Nat.le_of_ble_eq_true rfl) ?_
  refine jv_nf 70 [] rfl rfl ?_
  exact jv_pc 70 rfl (s_Md_takeNumber_3 hC hF)
set_option maxRecDepth 100000 in
set_option maxHeartbeats 4000000 in
theorem s_Md_takeNumber_1 {X : hm_X} {n : Nat} {S : hm_S} (hC : hm_C X RX12 cX12_takeNumber 3 (some .int) 2 n S) {v0 : Nat} {v1 : Int32} {v2 : Int32} {M : hm_M} {r : Int32} {M' : hm_M} (hF : b_Md_takeNumber_1 S v0 v1 v2 M = some (r, M')) : hm_U X 28 [(0, .ref v0), (1, .int v1), (2, .int v2)] [] M (hm_Q X (some (.int r)) M') := by
  unfold b_Md_takeNumber_1 at hF
  refine jv_aload_n hC 0 dX12_takeNumber_28 rfl ?_
  obtain ⟨g1, hF⟩ := hg_some hF
  refine jv_getI hC fl_X12_159 dX12_takeNumber_29 rfl g1 ?_
  refine jv_if_ne hC 70 dX12_takeNumber_32 (by decide) (fun h2 => ?_) (fun h2 => ?_)
  · have hF := hi_neg h2 hF
    refine jv_sub [0] (ls' := [(0, .ref v0)]) rfl ?_
    exact jv_pc 70 rfl (s_Md_takeNumber_3 hC hF)
  · have hF := hi_pos h2 hF
    refine jv_aload_n hC 0 dX12_takeNumber_35 rfl ?_
    obtain ⟨g3, hF⟩ := hg_some hF
    refine jv_getR hC fl_X12_30 dX12_takeNumber_36 rfl g1 g3 ?_
    refine jv_aload_n hC 0 dX12_takeNumber_39 rfl ?_
    refine jv_getI hC fl_X12_156 dX12_takeNumber_40 rfl g1 ?_
    obtain ⟨g4, hF⟩ := hg_some hF
    obtain ⟨n5, sn5, in5⟩ := hm_ib_ok g4
    refine jv_laload hC dX12_takeNumber_43 sn5 in5 ?_
    refine jv_iload_n hC 1 dX12_takeNumber_44 rfl ?_
    refine jv_i2l hC dX12_takeNumber_45 ?_
    refine jv_pc 46 rfl ?_
    refine jv_lcmp hC dX12_takeNumber_46 ?_
    refine jv_if_lt hC 65 dX12_takeNumber_47 (by decide) (fun h6 => ?_) (fun h6 => ?_)
    · have hF := hi_pos h6 hF
      refine jv_sub [0] (ls' := [(0, .ref v0)]) rfl ?_
      exact jv_pc 65 rfl (s_Md_takeNumber_2 hC hF)
    · have hF := hi_neg h6 hF
      refine jv_aload_n hC 0 dX12_takeNumber_50 rfl ?_
      refine jv_getR hC fl_X12_30 dX12_takeNumber_51 rfl g1 g3 ?_
      refine jv_aload_n hC 0 dX12_takeNumber_54 rfl ?_
      refine jv_getI hC fl_X12_156 dX12_takeNumber_55 rfl g1 ?_
      refine jv_laload hC dX12_takeNumber_58 sn5 in5 ?_
      refine jv_iload_n hC 2 dX12_takeNumber_59 rfl ?_
      refine jv_i2l hC dX12_takeNumber_60 ?_
      refine jv_pc 61 rfl ?_
      refine jv_lcmp hC dX12_takeNumber_61 ?_
      refine jv_if_le hC 70 dX12_takeNumber_62 (by decide) (fun h7 => ?_) (fun h7 => ?_)
      · have hF := hi_pos h7 hF
        refine jv_sub [0] (ls' := [(0, .ref v0)]) rfl ?_
        exact jv_pc 70 rfl (s_Md_takeNumber_3 hC hF)
      · have hF := hi_neg h7 hF
        refine jv_sub [0] (ls' := [(0, .ref v0)]) rfl ?_
        exact jv_pc 65 rfl (s_Md_takeNumber_2 hC hF)
set_option maxRecDepth 100000 in
set_option maxHeartbeats 4000000 in
theorem k_Md_takeNumber {n : Nat} {S : hm_S} {v0 : Nat} {v1 : Int32} {v2 : Int32} {M : hm_M} {r : Int32} {M' : hm_M} (hF : f_Md_takeNumber S v0 v1 v2 M = some (r, M')) : hm_KM yX12_takeNumber cX12_takeNumber 3 (some .int) 2 n S [.ref v0, .int v1, .int v2] M (some (.int r)) M' := by
  refine hm_enter mm_Md_takeNumber (Nat.le_of_ble_eq_true rfl) (fun X hC => ?_)
  show hm_U X 0 [(0, .ref v0), (1, .int v1), (2, .int v2)] [] M _
  unfold f_Md_takeNumber at hF
  refine jv_aload_n hC 0 dX12_takeNumber_0 rfl ?_
  obtain ⟨g1, hF⟩ := hg_some hF
  refine jv_getI hC fl_X12_159 dX12_takeNumber_1 rfl g1 ?_
  refine jv_if_ne hC 28 dX12_takeNumber_4 (by decide) (fun h2 => ?_) (fun h2 => ?_)
  · have hF := hi_neg h2 hF
    exact jv_pc 28 rfl (s_Md_takeNumber_1 hC hF)
  · have hF := hi_pos h2 hF
    refine jv_aload_n hC 0 dX12_takeNumber_7 rfl ?_
    obtain ⟨g3, hF⟩ := hg_some hF
    refine jv_getR hC fl_X12_24 dX12_takeNumber_8 rfl g1 g3 ?_
    refine jv_aload_n hC 0 dX12_takeNumber_11 rfl ?_
    refine jv_getI hC fl_X12_156 dX12_takeNumber_12 rfl g1 ?_
    obtain ⟨g4, hF⟩ := hg_some hF
    obtain ⟨n5, sn5, in5⟩ := hm_ib_ok g4
    refine jv_iaload hC dX12_takeNumber_15 sn5 in5 ?_
    refine jv_iconst hC dX12_takeNumber_16 c32_2 ?_
    refine jv_icmp_eq hC 28 dX12_takeNumber_17 (by decide) (fun h6 => ?_) (fun h6 => ?_)
    · have hF := hi_pos h6 hF
      exact jv_pc 28 rfl (s_Md_takeNumber_1 hC hF)
    · have hF := hi_neg h6 hF
      refine jv_aload_n hC 0 dX12_takeNumber_20 rfl ?_
      refine jv_iconst hC dX12_takeNumber_21 c32_1 ?_
      obtain ⟨M8, c7, hF⟩ := hv_some hF
      refine jv_callV hC (st := []) [.int (1 : Int32)] (k_Md_wrong c7) mm_Md_wrong mi_Md_wrong ml_X12_165 dX12_takeNumber_22 g1 rfl (Nat.le_of_ble_eq_true rfl) rfl rfl (Nat.le_of_ble_eq_true rfl) ?_
      refine jv_nf 25 [] rfl rfl ?_
      refine jv_goto hC 70 dX12_takeNumber_25 (by decide) ?_
      refine jv_sub [0] (ls' := [(0, .ref v0)]) rfl ?_
      exact jv_pc 70 rfl (s_Md_takeNumber_3 hC hF)
set_option maxRecDepth 100000 in
set_option maxHeartbeats 4000000 in
theorem k_Md_readFloor {n : Nat} {S : hm_S} {v0 : Nat} {M : hm_M} {M' : hm_M} (hF : f_Md_readFloor S v0 M = some M') : hm_KM yX12_readFloor cX12_readFloor 1 none 3 n S [.ref v0] M none M' := by
  refine hm_enter mm_Md_readFloor (Nat.le_of_ble_eq_true rfl) (fun X hC => ?_)
  show hm_U X 0 [(0, .ref v0)] [] M _
  unfold f_Md_readFloor at hF
  refine jv_aload_n hC 0 dX12_readFloor_0 rfl ?_
  obtain ⟨g1, hF⟩ := hg_some hF
  refine jv_getI hC fl_X12_188 dX12_readFloor_1 rfl g1 ?_
  refine jv_if_eq hC 13 dX12_readFloor_4 (by decide) (fun h2 => ?_) (fun h2 => ?_)
  · have hF := hi_pos h2 hF
    refine jv_aload_n hC 0 dX12_readFloor_13 rfl ?_
    refine jv_iconst hC dX12_readFloor_14 c32_1 ?_
    refine jv_putI hC fl_X12_188 dX12_readFloor_15 rfl (by decide) (by decide) g1 ?_
    obtain ⟨M3, e4, hF⟩ := hl_some hF
    refine jv_mem e4 ?_
    refine jv_aload_n hC 0 dX12_readFloor_18 rfl ?_
    refine jv_dup hC dX12_readFloor_19 rfl ?_
    refine jv_getI hC fl_X12_156 dX12_readFloor_20 rfl g1 ?_
    refine jv_iconst hC dX12_readFloor_23 c32_1 ?_
    refine jv_pc 24 rfl ?_
    refine jv_iadd hC dX12_readFloor_24 ?_
    refine jv_putI hC fl_X12_156 dX12_readFloor_25 rfl rfl rfl g1 ?_
    obtain ⟨M5, e6, hF⟩ := hl_some hF
    refine jv_mem e6 ?_
    refine jv_aload_n hC 0 dX12_readFloor_28 rfl ?_
    obtain ⟨g7, hF⟩ := hg_some hF
    refine jv_getR hC fl_X12_81 dX12_readFloor_29 rfl g1 g7 ?_
    refine jv_bipush hC dX12_readFloor_32 c8_80 ?_
    refine jv_aload_n hC 0 dX12_readFloor_34 rfl ?_
    refine jv_iconst hC dX12_readFloor_35 c32_1 ?_
    refine jv_bipush hC dX12_readFloor_36 c8_8 ?_
    refine jv_pc 38 rfl ?_
    obtain ⟨r10, M9, c8, hF⟩ := hb_some hF
    refine jv_callV hC (st := [.int (80 : Int32), .ref (M5.2.2 v0 10)]) [.int (1 : Int32), .int (8 : Int32)] (k_Md_takeNumber c8) mm_Md_takeNumber mi_Md_takeNumber ml_X12_178 dX12_readFloor_38 g1 rfl (Nat.le_of_ble_eq_true rfl) rfl rfl (Nat.le_of_ble_eq_true rfl) ?_
    refine jv_nf 41 [.int r10, .int (80 : Int32), .ref (M5.2.2 v0 10)] rfl rfl ?_
    obtain ⟨g11, hF⟩ := hg_some hF
    obtain ⟨n12, sn12, in12⟩ := hm_ib_ok g11
    refine jv_iastore hC dX12_readFloor_41 sn12 in12 ?_
    obtain ⟨M13, e14, hF⟩ := hl_some hF
    refine jv_mem e14 ?_
    refine jv_aload_n hC 0 dX12_readFloor_42 rfl ?_
    obtain ⟨g15, hF⟩ := hg_some hF
    refine jv_getR hC fl_X12_81 dX12_readFloor_43 rfl g1 g15 ?_
    refine jv_bipush hC dX12_readFloor_46 c8_81 ?_
    refine jv_aload_n hC 0 dX12_readFloor_48 rfl ?_
    refine jv_iconst hC dX12_readFloor_49 c32_1 ?_
    refine jv_bipush hC dX12_readFloor_50 c8_8 ?_
    refine jv_pc 52 rfl ?_
    obtain ⟨r18, M17, c16, hF⟩ := hb_some hF
    refine jv_callV hC (st := [.int (81 : Int32), .ref (M13.2.2 v0 10)]) [.int (1 : Int32), .int (8 : Int32)] (k_Md_takeNumber c16) mm_Md_takeNumber mi_Md_takeNumber ml_X12_178 dX12_readFloor_52 g1 rfl (Nat.le_of_ble_eq_true rfl) rfl rfl (Nat.le_of_ble_eq_true rfl) ?_
    refine jv_nf 55 [.int r18, .int (81 : Int32), .ref (M13.2.2 v0 10)] rfl rfl ?_
    obtain ⟨g19, hF⟩ := hg_some hF
    obtain ⟨n20, sn20, in20⟩ := hm_ib_ok g19
    refine jv_iastore hC dX12_readFloor_55 sn20 in20 ?_
    obtain ⟨M21, e22, hF⟩ := hl_some hF
    refine jv_mem e22 ?_
    obtain rfl := hr_somev hF
    exact jv_vret hC dX12_readFloor_56
  · have hF := hi_neg h2 hF
    refine jv_aload_n hC 0 dX12_readFloor_7 rfl ?_
    refine jv_iconst hC dX12_readFloor_8 c32_3 ?_
    obtain ⟨M24, c23, hF⟩ := hv_some hF
    refine jv_callV hC (st := []) [.int (3 : Int32)] (k_Md_wrong c23) mm_Md_wrong mi_Md_wrong ml_X12_165 dX12_readFloor_9 g1 rfl (Nat.le_of_ble_eq_true rfl) rfl rfl (Nat.le_of_ble_eq_true rfl) ?_
    refine jv_nf 12 [] rfl rfl ?_
    obtain rfl := hr_somev hF
    exact jv_vret hC dX12_readFloor_12
set_option maxRecDepth 100000 in
set_option maxHeartbeats 4000000 in
theorem s_Md_isName_5 {X : hm_X} {n : Nat} {S : hm_S} (hC : hm_C X RX12 cX12_isName 3 (some .boolean) 1 n S) {k28 : Nat → Int32 → Int32 → hm_M → Option (Int32 × hm_M)} (hk28 : ∀ (v0 : Nat) (v1 : Int32) (v2 : Int32)  (M : hm_M) (r : Int32) (M' : hm_M), k28 v0 v1 v2 M = some (r, M') → hm_U X 28 [(0, .ref v0), (1, .int v1), (2, .int v2)] [] M (hm_Q X (some (.int r)) M')) {v0 : Nat} {v2 : Int32} {s0 : Int32} {M : hm_M} {r : Int32} {M' : hm_M} (hF : b_Md_isName_5 S k28 v0 v2 s0 M = some (r, M')) : hm_U X 62 [(0, .ref v0), (2, .int v2)] [.int s0] M (hm_Q X (some (.int r)) M') := by
  unfold b_Md_isName_5 at hF
  refine jv_istore_n hC [(1, .int s0), (0, .ref v0), (2, .int v2)] dX12_isName_62 (by decide) rfl ?_
  refine jv_iinc hC 2 [(2, .int (v2 + (1 : Int32))), (1, .int s0), (0, .ref v0)] dX12_isName_63 rfl c32_1 (by decide) rfl ?_
  refine jv_goto hC 28 dX12_isName_66 (by decide) ?_
  refine jv_sub [2, 1, 0] (ls' := [(0, .ref v0), (1, .int s0), (2, .int (v2 + (1 : Int32)))]) rfl ?_
  exact jv_pc 28 rfl (hk28 _ _ _ _ _ _ hF)
set_option maxRecDepth 100000 in
set_option maxHeartbeats 4000000 in
theorem s_Md_isName_4 {X : hm_X} {n : Nat} {S : hm_S} (hC : hm_C X RX12 cX12_isName 3 (some .boolean) 1 n S) {k28 : Nat → Int32 → Int32 → hm_M → Option (Int32 × hm_M)} (hk28 : ∀ (v0 : Nat) (v1 : Int32) (v2 : Int32)  (M : hm_M) (r : Int32) (M' : hm_M), k28 v0 v1 v2 M = some (r, M') → hm_U X 28 [(0, .ref v0), (1, .int v1), (2, .int v2)] [] M (hm_Q X (some (.int r)) M')) {v0 : Nat} {v2 : Int32} {M : hm_M} {r : Int32} {M' : hm_M} (hF : b_Md_isName_4 S k28 v0 v2 M = some (r, M')) : hm_U X 61 [(0, .ref v0), (2, .int v2)] [] M (hm_Q X (some (.int r)) M') := by
  unfold b_Md_isName_4 at hF
  refine jv_iconst hC dX12_isName_61 c32_0 ?_
  exact jv_pc 62 rfl (s_Md_isName_5 hC hk28 hF)
set_option maxRecDepth 100000 in
set_option maxHeartbeats 4000000 in
theorem t_Md_isName_3 {X : hm_X} {n : Nat} {S : hm_S} (hC : hm_C X RX12 cX12_isName 3 (some .boolean) 1 n S) {k28 : Nat → Int32 → Int32 → hm_M → Option (Int32 × hm_M)} (hk28 : ∀ (v0 : Nat) (v1 : Int32) (v2 : Int32)  (M : hm_M) (r : Int32) (M' : hm_M), k28 v0 v1 v2 M = some (r, M') → hm_U X 28 [(0, .ref v0), (1, .int v1), (2, .int v2)] [] M (hm_Q X (some (.int r)) M')) {v0 : Nat} {v1 : Int32} {v2 : Int32} {M : hm_M} {r : Int32} {M' : hm_M} (hF : b_Md_isName_3 S k28 v0 v1 v2 M = some (r, M')) : hm_U X 28 [(0, .ref v0), (1, .int v1), (2, .int v2)] [] M (hm_Q X (some (.int r)) M') := by
  unfold b_Md_isName_3 at hF
  refine jv_iload_n hC 2 dX12_isName_28 rfl ?_
  refine jv_bipush hC dX12_isName_29 c8_15 ?_
  refine jv_icmp_ge hC 69 dX12_isName_31 (by decide) (fun h1 => ?_) (fun h1 => ?_)
  · have hF := hi_pos h1 hF
    refine jv_iload_n hC 1 dX12_isName_69 rfl ?_
    obtain ⟨g2, hF⟩ := hg_some hF
    obtain ⟨rfl, rfl⟩ := hr_some hF
    exact jv_zret hC (hz_ok g2) dX12_isName_70
  · have hF := hi_neg h1 hF
    refine jv_iload_n hC 1 dX12_isName_34 rfl ?_
    refine jv_if_eq hC 61 dX12_isName_35 (by decide) (fun h3 => ?_) (fun h3 => ?_)
    · have hF := hi_pos h3 hF
      refine jv_sub [0, 2] (ls' := [(0, .ref v0), (2, .int v2)]) rfl ?_
      exact jv_pc 61 rfl (s_Md_isName_4 hC hk28 hF)
    · have hF := hi_neg h3 hF
      refine jv_aload_n hC 0 dX12_isName_38 rfl ?_
      obtain ⟨g4, hF⟩ := hg_some hF
      obtain ⟨g5, hF⟩ := hg_some hF
      refine jv_getR hC fl_X12_30 dX12_isName_39 rfl g4 g5 ?_
      refine jv_aload_n hC 0 dX12_isName_42 rfl ?_
      refine jv_getI hC fl_X12_156 dX12_isName_43 rfl g4 ?_
      obtain ⟨g6, hF⟩ := hg_some hF
      obtain ⟨n7, sn7, in7⟩ := hm_ib_ok g6
      refine jv_laload hC dX12_isName_46 sn7 in7 ?_
      refine jv_aload_n hC 0 dX12_isName_47 rfl ?_
      obtain ⟨g8, hF⟩ := hg_some hF
      refine jv_getR hC fl_X12_78 dX12_isName_48 rfl g4 g8 ?_
      refine jv_pc 51 rfl ?_
      refine jv_iload_n hC 2 dX12_isName_51 rfl ?_
      obtain ⟨g9, hF⟩ := hg_some hF
      obtain ⟨n10, sn10, in10⟩ := hm_ib_ok g9
      refine jv_laload hC dX12_isName_52 sn10 in10 ?_
      refine jv_lcmp hC dX12_isName_53 ?_
      refine jv_if_eq hC 61 dX12_isName_54 (by decide) (fun h11 => ?_) (fun h11 => ?_)
      · have hF := hi_pos h11 hF
        refine jv_sub [0, 2] (ls' := [(0, .ref v0), (2, .int v2)]) rfl ?_
        exact jv_pc 61 rfl (s_Md_isName_4 hC hk28 hF)
      · have hF := hi_neg h11 hF
        refine jv_iconst hC dX12_isName_57 c32_1 ?_
        refine jv_goto hC 62 dX12_isName_58 (by decide) ?_
        refine jv_sub [0, 2] (ls' := [(0, .ref v0), (2, .int v2)]) rfl ?_
        exact jv_pc 62 rfl (s_Md_isName_5 hC hk28 hF)
theorem s_Md_isName_3 {X : hm_X} {n : Nat} {S : hm_S} (hC : hm_C X RX12 cX12_isName 3 (some .boolean) 1 n S) : ∀ (q : Nat) (v0 : Nat) (v1 : Int32) (v2 : Int32) (M : hm_M) (r : Int32) (M' : hm_M), f_Md_isName_3 S  q v0 v1 v2 M = some (r, M') → hm_U X 28 [(0, .ref v0), (1, .int v1), (2, .int v2)] [] M (hm_Q X (some (.int r)) M') := by
  intro q
  induction q with
  | zero => intro v0 v1 v2 M r M' hF; cases hF
  | succ q ih => intro v0 v1 v2 M r M' hF; exact t_Md_isName_3 hC ih hF
set_option maxRecDepth 100000 in
set_option maxHeartbeats 4000000 in
theorem s_Md_isName_2 {X : hm_X} {n : Nat} {S : hm_S} (hC : hm_C X RX12 cX12_isName 3 (some .boolean) 1 n S) {v0 : Nat} {s0 : Int32} {M : hm_M} {r : Int32} {M' : hm_M} (hF : b_Md_isName_2 S v0 s0 M = some (r, M')) : hm_U X 25 [(0, .ref v0)] [.int s0] M (hm_Q X (some (.int r)) M') := by
  unfold b_Md_isName_2 at hF
  refine jv_istore_n hC [(1, .int s0), (0, .ref v0)] dX12_isName_25 (by decide) rfl ?_
  refine jv_iconst hC dX12_isName_26 c32_0 ?_
  refine jv_istore_n hC [(2, .int (0 : Int32)), (1, .int s0), (0, .ref v0)] dX12_isName_27 (by decide) rfl ?_
  refine jv_sub [2, 1, 0] (ls' := [(0, .ref v0), (1, .int s0), (2, .int (0 : Int32))]) rfl ?_
  exact jv_pc 28 rfl (s_Md_isName_3 hC hN _ _ _ _ _ _ hF)
set_option maxRecDepth 100000 in
set_option maxHeartbeats 4000000 in
theorem s_Md_isName_1 {X : hm_X} {n : Nat} {S : hm_S} (hC : hm_C X RX12 cX12_isName 3 (some .boolean) 1 n S) {v0 : Nat} {M : hm_M} {r : Int32} {M' : hm_M} (hF : b_Md_isName_1 S v0 M = some (r, M')) : hm_U X 24 [(0, .ref v0)] [] M (hm_Q X (some (.int r)) M') := by
  unfold b_Md_isName_1 at hF
  refine jv_iconst hC dX12_isName_24 c32_0 ?_
  exact jv_pc 25 rfl (s_Md_isName_2 hC hF)
set_option maxRecDepth 100000 in
set_option maxHeartbeats 4000000 in
theorem k_Md_isName {n : Nat} {S : hm_S} {v0 : Nat} {M : hm_M} {r : Int32} {M' : hm_M} (hF : f_Md_isName S v0 M = some (r, M')) : hm_KM yX12_isName cX12_isName 3 (some .boolean) 1 n S [.ref v0] M (some (.int r)) M' := by
  refine hm_enter mm_Md_isName (Nat.le_of_ble_eq_true rfl) (fun X hC => ?_)
  show hm_U X 0 [(0, .ref v0)] [] M _
  unfold f_Md_isName at hF
  refine jv_aload_n hC 0 dX12_isName_0 rfl ?_
  obtain ⟨g1, hF⟩ := hg_some hF
  refine jv_getI hC fl_X12_159 dX12_isName_1 rfl g1 ?_
  refine jv_if_ne hC 24 dX12_isName_4 (by decide) (fun h2 => ?_) (fun h2 => ?_)
  · have hF := hi_neg h2 hF
    exact jv_pc 24 rfl (s_Md_isName_1 hC hF)
  · have hF := hi_pos h2 hF
    refine jv_aload_n hC 0 dX12_isName_7 rfl ?_
    obtain ⟨g3, hF⟩ := hg_some hF
    refine jv_getR hC fl_X12_24 dX12_isName_8 rfl g1 g3 ?_
    refine jv_aload_n hC 0 dX12_isName_11 rfl ?_
    refine jv_getI hC fl_X12_156 dX12_isName_12 rfl g1 ?_
    obtain ⟨g4, hF⟩ := hg_some hF
    obtain ⟨n5, sn5, in5⟩ := hm_ib_ok g4
    refine jv_iaload hC dX12_isName_15 sn5 in5 ?_
    refine jv_iconst hC dX12_isName_16 c32_1 ?_
    refine jv_icmp_ne hC 24 dX12_isName_17 (by decide) (fun h6 => ?_) (fun h6 => ?_)
    · have hF := hi_neg h6 hF
      exact jv_pc 24 rfl (s_Md_isName_1 hC hF)
    · have hF := hi_pos h6 hF
      refine jv_iconst hC dX12_isName_20 c32_1 ?_
      refine jv_goto hC 25 dX12_isName_21 (by decide) ?_
      exact jv_pc 25 rfl (s_Md_isName_2 hC hF)
set_option maxRecDepth 100000 in
set_option maxHeartbeats 4000000 in
theorem t_Md_find_1 {X : hm_X} {n : Nat} {S : hm_S} (hC : hm_C X RX12 cX12_find 2 (some .int) 1 n S) {k2 : Nat → Int32 → hm_M → Option (Int32 × hm_M)} (hk2 : ∀ (v0 : Nat) (v1 : Int32)  (M : hm_M) (r : Int32) (M' : hm_M), k2 v0 v1 M = some (r, M') → hm_U X 2 [(0, .ref v0), (1, .int v1)] [] M (hm_Q X (some (.int r)) M')) {v0 : Nat} {v1 : Int32} {M : hm_M} {r : Int32} {M' : hm_M} (hF : b_Md_find_1 S k2 v0 v1 M = some (r, M')) : hm_U X 2 [(0, .ref v0), (1, .int v1)] [] M (hm_Q X (some (.int r)) M') := by
  unfold b_Md_find_1 at hF
  refine jv_iload_n hC 1 dX12_find_2 rfl ?_
  refine jv_aload_n hC 0 dX12_find_3 rfl ?_
  obtain ⟨g1, hF⟩ := hg_some hF
  obtain ⟨g2, hF⟩ := hg_some hF
  refine jv_getR hC fl_X12_81 dX12_find_4 rfl g1 g2 ?_
  refine jv_bipush hC dX12_find_7 c8_83 ?_
  obtain ⟨g3, hF⟩ := hg_some hF
  obtain ⟨n4, sn4, in4⟩ := hm_ib_ok g3
  refine jv_iaload hC dX12_find_9 sn4 in4 ?_
  refine jv_icmp_ge hC 40 dX12_find_10 (by decide) (fun h5 => ?_) (fun h5 => ?_)
  · have hF := hi_pos h5 hF
    refine jv_iconst hC dX12_find_40 c32_m1 ?_
    obtain ⟨rfl, rfl⟩ := hr_some hF
    exact jv_iret hC dX12_find_41
  · have hF := hi_neg h5 hF
    refine jv_aload_n hC 0 dX12_find_13 rfl ?_
    obtain ⟨g6, hF⟩ := hg_some hF
    refine jv_getR hC fl_X12_90 dX12_find_14 rfl g1 g6 ?_
    refine jv_iload_n hC 1 dX12_find_17 rfl ?_
    obtain ⟨g7, hF⟩ := hg_some hF
    obtain ⟨n8, sn8, in8⟩ := hm_ib_ok g7
    refine jv_laload hC dX12_find_18 sn8 in8 ?_
    refine jv_aload_n hC 0 dX12_find_19 rfl ?_
    obtain ⟨g9, hF⟩ := hg_some hF
    refine jv_getR hC fl_X12_30 dX12_find_20 rfl g1 g9 ?_
    refine jv_aload_n hC 0 dX12_find_23 rfl ?_
    refine jv_pc 24 rfl ?_
    refine jv_getI hC fl_X12_156 dX12_find_24 rfl g1 ?_
    obtain ⟨g10, hF⟩ := hg_some hF
    obtain ⟨n11, sn11, in11⟩ := hm_ib_ok g10
    refine jv_laload hC dX12_find_27 sn11 in11 ?_
    refine jv_lcmp hC dX12_find_28 ?_
    refine jv_if_ne hC 34 dX12_find_29 (by decide) (fun h12 => ?_) (fun h12 => ?_)
    · have hF := hi_neg h12 hF
      refine jv_iinc hC 1 [(1, .int (v1 + (1 : Int32))), (0, .ref v0)] dX12_find_34 rfl c32_1 (by decide) rfl ?_
      refine jv_goto hC 2 dX12_find_37 (by decide) ?_
      refine jv_sub [1, 0] (ls' := [(0, .ref v0), (1, .int (v1 + (1 : Int32)))]) rfl ?_
      exact jv_pc 2 rfl (hk2 _ _ _ _ _ hF)
    · have hF := hi_pos h12 hF
      refine jv_iload_n hC 1 dX12_find_32 rfl ?_
      obtain ⟨rfl, rfl⟩ := hr_some hF
      exact jv_iret hC dX12_find_33
theorem s_Md_find_1 {X : hm_X} {n : Nat} {S : hm_S} (hC : hm_C X RX12 cX12_find 2 (some .int) 1 n S) : ∀ (q : Nat) (v0 : Nat) (v1 : Int32) (M : hm_M) (r : Int32) (M' : hm_M), f_Md_find_1 S  q v0 v1 M = some (r, M') → hm_U X 2 [(0, .ref v0), (1, .int v1)] [] M (hm_Q X (some (.int r)) M') := by
  intro q
  induction q with
  | zero => intro v0 v1 M r M' hF; cases hF
  | succ q ih => intro v0 v1 M r M' hF; exact t_Md_find_1 hC ih hF
set_option maxRecDepth 100000 in
set_option maxHeartbeats 4000000 in
theorem k_Md_find {n : Nat} {S : hm_S} {v0 : Nat} {M : hm_M} {r : Int32} {M' : hm_M} (hF : f_Md_find S v0 M = some (r, M')) : hm_KM yX12_find cX12_find 2 (some .int) 1 n S [.ref v0] M (some (.int r)) M' := by
  refine hm_enter mm_Md_find (Nat.le_of_ble_eq_true rfl) (fun X hC => ?_)
  show hm_U X 0 [(0, .ref v0)] [] M _
  unfold f_Md_find at hF
  refine jv_iconst hC dX12_find_0 c32_0 ?_
  refine jv_istore_n hC [(1, .int (0 : Int32)), (0, .ref v0)] dX12_find_1 (by decide) rfl ?_
  refine jv_sub [1, 0] (ls' := [(0, .ref v0), (1, .int (0 : Int32))]) rfl ?_
  exact jv_pc 2 rfl (s_Md_find_1 hC hN _ _ _ _ _ hF)
set_option maxRecDepth 100000 in
set_option maxHeartbeats 4000000 in
theorem s_Md_hasWord_1 {X : hm_X} {n : Nat} {S : hm_S} (hC : hm_C X RX12 cX12_hasWord 3 (some .boolean) 2 n S) {v2 : Int32} {s0 : Int32} {s1 : Int32} {s2 : Nat} {M : hm_M} {r : Int32} {M' : hm_M} (hF : b_Md_hasWord_1 S v2 s0 s1 s2 M = some (r, M')) : hm_U X 20 [(2, .int v2)] [.int s0, .int s1, .ref s2] M (hm_Q X (some (.int r)) M') := by
  unfold b_Md_hasWord_1 at hF
  refine jv_iadd hC dX12_hasWord_20 ?_
  obtain ⟨g1, hF⟩ := hg_some hF
  refine jv_putI hC fl_X12_156 dX12_hasWord_21 rfl rfl rfl g1 ?_
  obtain ⟨M2, e3, hF⟩ := hl_some hF
  refine jv_mem e3 ?_
  refine jv_iload_n hC 0 dX12_hasWord_24 rfl ?_
  obtain ⟨g4, hF⟩ := hg_some hF
  obtain ⟨rfl, rfl⟩ := hr_some hF
  exact jv_zret hC (hz_ok g4) dX12_hasWord_25
set_option maxRecDepth 100000 in
set_option maxHeartbeats 4000000 in
theorem k_Md_hasWord {n : Nat} {S : hm_S} {v0 : Nat} {v1 : Int32} {M : hm_M} {r : Int32} {M' : hm_M} (hF : f_Md_hasWord S v0 v1 M = some (r, M')) : hm_KM yX12_hasWord cX12_hasWord 3 (some .boolean) 2 n S [.ref v0, .int v1] M (some (.int r)) M' := by
  refine hm_enter mm_Md_hasWord (Nat.le_of_ble_eq_true rfl) (fun X hC => ?_)
  show hm_U X 0 [(0, .ref v0), (1, .int v1)] [] M _
  unfold f_Md_hasWord at hF
  refine jv_aload_n hC 0 dX12_hasWord_0 rfl ?_
  refine jv_iload_n hC 1 dX12_hasWord_1 rfl ?_
  obtain ⟨g1, hF⟩ := hg_some hF
  obtain ⟨r4, M3, c2, hF⟩ := hb_some hF
  refine jv_callV hC (st := []) [.int v1] (k_Md_isWord c2) mm_Md_isWord mi_Md_isWord ml_X12_169 dX12_hasWord_2 g1 rfl (Nat.le_of_ble_eq_true rfl) rfl rfl (Nat.le_of_ble_eq_true rfl) ?_
  refine jv_nf 5 [.int r4] rfl rfl ?_
  refine jv_istore_n hC [(2, .int r4), (0, .ref v0), (1, .int v1)] dX12_hasWord_5 (by decide) rfl ?_
  refine jv_aload_n hC 1 dX12_hasWord_6 rfl ?_
  refine jv_dup hC dX12_hasWord_7 rfl ?_
  refine jv_getI hC fl_X12_156 dX12_hasWord_8 rfl g1 ?_
  refine jv_iload_n hC 0 dX12_hasWord_11 rfl ?_
  refine jv_if_eq hC 19 dX12_hasWord_12 (by decide) (fun h5 => ?_) (fun h5 => ?_)
  · have hF := hi_pos h5 hF
    refine jv_iconst hC dX12_hasWord_19 c32_0 ?_
    refine jv_sub [0] (ls' := [(2, .int r4)]) rfl ?_
    exact jv_pc 20 rfl (s_Md_hasWord_1 hC hF)
  · have hF := hi_neg h5 hF
    refine jv_iconst hC dX12_hasWord_15 c32_1 ?_
    refine jv_goto hC 20 dX12_hasWord_16 (by decide) ?_
    refine jv_sub [0] (ls' := [(2, .int r4)]) rfl ?_
    exact jv_pc 20 rfl (s_Md_hasWord_1 hC hF)
set_option maxRecDepth 100000 in
set_option maxHeartbeats 4000000 in
theorem k_Md_takeWord {n : Nat} {S : hm_S} {v0 : Nat} {v1 : Int32} {M : hm_M} {M' : hm_M} (hF : f_Md_takeWord S v0 v1 M = some M') : hm_KM yX12_takeWord cX12_takeWord 2 none 3 n S [.ref v0, .int v1] M none M' := by
  refine hm_enter mm_Md_takeWord (Nat.le_of_ble_eq_true rfl) (fun X hC => ?_)
  show hm_U X 0 [(0, .ref v0), (1, .int v1)] [] M _
  unfold f_Md_takeWord at hF
  refine jv_aload_n hC 0 dX12_takeWord_0 rfl ?_
  refine jv_iload_n hC 1 dX12_takeWord_1 rfl ?_
  obtain ⟨g1, hF⟩ := hg_some hF
  obtain ⟨r4, M3, c2, hF⟩ := hb_some hF
  refine jv_callV hC (st := []) [.int v1] (k_Md_hasWord c2) mm_Md_hasWord mi_Md_hasWord ml_X12_172 dX12_takeWord_2 g1 rfl (Nat.le_of_ble_eq_true rfl) rfl rfl (Nat.le_of_ble_eq_true rfl) ?_
  refine jv_nf 5 [.int r4] rfl rfl ?_
  refine jv_if_ne hC 13 dX12_takeWord_5 (by decide) (fun h5 => ?_) (fun h5 => ?_)
  · have hF := hi_neg h5 hF
    obtain rfl := hr_somev hF
    exact jv_vret hC dX12_takeWord_13
  · have hF := hi_pos h5 hF
    refine jv_aload_n hC 0 dX12_takeWord_8 rfl ?_
    refine jv_iconst hC dX12_takeWord_9 c32_1 ?_
    obtain ⟨M7, c6, hF⟩ := hv_some hF
    refine jv_callV hC (st := []) [.int (1 : Int32)] (k_Md_wrong c6) mm_Md_wrong mi_Md_wrong ml_X12_165 dX12_takeWord_10 g1 rfl (Nat.le_of_ble_eq_true rfl) rfl rfl (Nat.le_of_ble_eq_true rfl) ?_
    refine jv_nf 13 [] rfl rfl ?_
    obtain rfl := hr_somev hF
    exact jv_vret hC dX12_takeWord_13
set_option maxRecDepth 100000 in
set_option maxHeartbeats 4000000 in
theorem k_Md_takeAfter {n : Nat} {S : hm_S} {v0 : Nat} {v1 : Int32} {v2 : Int32} {v3 : Int32} {M : hm_M} {r : Int32} {M' : hm_M} (hF : f_Md_takeAfter S v0 v1 v2 v3 M = some (r, M')) : hm_KM yX12_takeAfter cX12_takeAfter 4 (some .int) 4 n S [.ref v0, .int v1, .int v2, .int v3] M (some (.int r)) M' := by
  refine hm_enter mm_Md_takeAfter (Nat.le_of_ble_eq_true rfl) (fun X hC => ?_)
  show hm_U X 0 [(0, .ref v0), (1, .int v1), (2, .int v2), (3, .int v3)] [] M _
  unfold f_Md_takeAfter at hF
  refine jv_aload_n hC 0 dX12_takeAfter_0 rfl ?_
  refine jv_iload_n hC 1 dX12_takeAfter_1 rfl ?_
  obtain ⟨g1, hF⟩ := hg_some hF
  obtain ⟨M3, c2, hF⟩ := hv_some hF
  refine jv_callV hC (st := []) [.int v1] (k_Md_takeWord c2) mm_Md_takeWord mi_Md_takeWord ml_X12_175 dX12_takeAfter_2 g1 rfl (Nat.le_of_ble_eq_true rfl) rfl rfl (Nat.le_of_ble_eq_true rfl) ?_
  refine jv_nf 5 [] rfl rfl ?_
  refine jv_aload_n hC 0 dX12_takeAfter_5 rfl ?_
  refine jv_iload_n hC 2 dX12_takeAfter_6 rfl ?_
  refine jv_iload_n hC 3 dX12_takeAfter_7 rfl ?_
  obtain ⟨r6, M5, c4, hF⟩ := hb_some hF
  refine jv_callV hC (st := []) [.int v2, .int v3] (k_Md_takeNumber c4) mm_Md_takeNumber mi_Md_takeNumber ml_X12_178 dX12_takeAfter_8 g1 rfl (Nat.le_of_ble_eq_true rfl) rfl rfl (Nat.le_of_ble_eq_true rfl) ?_
  refine jv_nf 11 [.int r6] rfl rfl ?_
  obtain ⟨rfl, rfl⟩ := hr_some hF
  exact jv_iret hC dX12_takeAfter_11
set_option maxRecDepth 100000 in
set_option maxHeartbeats 4000000 in
theorem s_Md_readGuild_1 {X : hm_X} {n : Nat} {S : hm_S} (hC : hm_C X RX12 cX12_readGuild 2 none 5 n S) {v0 : Nat} {v1 : Int32} {M : hm_M} {M' : hm_M} (hF : b_Md_readGuild_1 S v0 v1 M = some M') : hm_U X 57 [(0, .ref v0), (1, .int v1)] [] M (hm_Q X none M') := by
  unfold b_Md_readGuild_1 at hF
  refine jv_aload_n hC 0 dX12_readGuild_57 rfl ?_
  obtain ⟨g1, hF⟩ := hg_some hF
  refine jv_getI hC fl_X12_159 dX12_readGuild_58 rfl g1 ?_
  refine jv_if_le hC 65 dX12_readGuild_61 (by decide) (fun h2 => ?_) (fun h2 => ?_)
  · have hF := hi_pos h2 hF
    refine jv_aload_n hC 0 dX12_readGuild_65 rfl ?_
    obtain ⟨g3, hF⟩ := hg_some hF
    refine jv_getR hC fl_X12_90 dX12_readGuild_66 rfl g1 g3 ?_
    refine jv_iload_n hC 1 dX12_readGuild_69 rfl ?_
    refine jv_aload_n hC 0 dX12_readGuild_70 rfl ?_
    obtain ⟨g4, hF⟩ := hg_some hF
    refine jv_getR hC fl_X12_30 dX12_readGuild_71 rfl g1 g4 ?_
    refine jv_aload_n hC 0 dX12_readGuild_74 rfl ?_
    refine jv_getI hC fl_X12_156 dX12_readGuild_75 rfl g1 ?_
    refine jv_pc 78 rfl ?_
    obtain ⟨g5, hF⟩ := hg_some hF
    obtain ⟨n6, sn6, in6⟩ := hm_ib_ok g5
    refine jv_laload hC dX12_readGuild_78 sn6 in6 ?_
    obtain ⟨g7, hF⟩ := hg_some hF
    obtain ⟨n8, sn8, in8⟩ := hm_ib_ok g7
    refine jv_lastore hC dX12_readGuild_79 sn8 in8 ?_
    obtain ⟨M9, e10, hF⟩ := hl_some hF
    refine jv_mem e10 ?_
    refine jv_aload_n hC 0 dX12_readGuild_80 rfl ?_
    refine jv_dup hC dX12_readGuild_81 rfl ?_
    refine jv_getI hC fl_X12_156 dX12_readGuild_82 rfl g1 ?_
    refine jv_iconst hC dX12_readGuild_85 c32_1 ?_
    refine jv_iadd hC dX12_readGuild_86 ?_
    refine jv_putI hC fl_X12_156 dX12_readGuild_87 rfl rfl rfl g1 ?_
    obtain ⟨M11, e12, hF⟩ := hl_some hF
    refine jv_mem e12 ?_
    refine jv_pc 90 rfl ?_
    refine jv_aload_n hC 0 dX12_readGuild_90 rfl ?_
    obtain ⟨g13, hF⟩ := hg_some hF
    refine jv_getR hC fl_X12_81 dX12_readGuild_91 rfl g1 g13 ?_
    refine jv_bipush hC dX12_readGuild_94 c8_85 ?_
    refine jv_iconst hC dX12_readGuild_96 c32_2 ?_
    refine jv_iload_n hC 1 dX12_readGuild_97 rfl ?_
    refine jv_imul hC dX12_readGuild_98 ?_
    refine jv_iadd hC dX12_readGuild_99 ?_
    refine jv_aload_n hC 0 dX12_readGuild_100 rfl ?_
    refine jv_pc 101 rfl ?_
    refine jv_iconst hC dX12_readGuild_101 c32_2 ?_
    refine jv_iconst hC dX12_readGuild_102 c32_0 ?_
    refine jv_bipush hC dX12_readGuild_103 c8_7 ?_
    obtain ⟨r16, M15, c14, hF⟩ := hb_some hF
    refine jv_callV hC (st := [.int ((85 : Int32) + ((2 : Int32) * v1)), .ref (M11.2.2 v0 10)]) [.int (2 : Int32), .int (0 : Int32), .int (7 : Int32)] (k_Md_takeAfter c14) mm_Md_takeAfter mi_Md_takeAfter ml_X12_227 dX12_readGuild_105 g1 rfl (Nat.le_of_ble_eq_true rfl) rfl rfl (Nat.le_of_ble_eq_true rfl) ?_
    refine jv_nf 108 [.int r16, .int ((85 : Int32) + ((2 : Int32) * v1)), .ref (M11.2.2 v0 10)] rfl rfl ?_
    obtain ⟨g17, hF⟩ := hg_some hF
    obtain ⟨n18, sn18, in18⟩ := hm_ib_ok g17
    refine jv_iastore hC dX12_readGuild_108 sn18 in18 ?_
    obtain ⟨M19, e20, hF⟩ := hl_some hF
    refine jv_mem e20 ?_
    refine jv_aload_n hC 0 dX12_readGuild_109 rfl ?_
    obtain ⟨g21, hF⟩ := hg_some hF
    refine jv_getR hC fl_X12_81 dX12_readGuild_110 rfl g1 g21 ?_
    refine jv_bipush hC dX12_readGuild_113 c8_85 ?_
    refine jv_iconst hC dX12_readGuild_115 c32_2 ?_
    refine jv_iload_n hC 1 dX12_readGuild_116 rfl ?_
    refine jv_imul hC dX12_readGuild_117 ?_
    refine jv_pc 118 rfl ?_
    refine jv_iadd hC dX12_readGuild_118 ?_
    refine jv_iconst hC dX12_readGuild_119 c32_1 ?_
    refine jv_iadd hC dX12_readGuild_120 ?_
    refine jv_aload_n hC 0 dX12_readGuild_121 rfl ?_
    refine jv_iconst hC dX12_readGuild_122 c32_3 ?_
    refine jv_iconst hC dX12_readGuild_123 c32_0 ?_
    refine jv_sipush hC dX12_readGuild_124 c16_9999 ?_
    obtain ⟨r24, M23, c22, hF⟩ := hb_some hF
    refine jv_callV hC (st := [.int (((85 : Int32) + ((2 : Int32) * v1)) + (1 : Int32)), .ref (M19.2.2 v0 10)]) [.int (3 : Int32), .int (0 : Int32), .int (9999 : Int32)] (k_Md_takeAfter c22) mm_Md_takeAfter mi_Md_takeAfter ml_X12_227 dX12_readGuild_127 g1 rfl (Nat.le_of_ble_eq_true rfl) rfl rfl (Nat.le_of_ble_eq_true rfl) ?_
    refine jv_nf 130 [.int r24, .int (((85 : Int32) + ((2 : Int32) * v1)) + (1 : Int32)), .ref (M19.2.2 v0 10)] rfl rfl ?_
    obtain ⟨g25, hF⟩ := hg_some hF
    obtain ⟨n26, sn26, in26⟩ := hm_ib_ok g25
    refine jv_iastore hC dX12_readGuild_130 sn26 in26 ?_
    obtain ⟨M27, e28, hF⟩ := hl_some hF
    refine jv_mem e28 ?_
    refine jv_aload_n hC 0 dX12_readGuild_131 rfl ?_
    obtain ⟨g29, hF⟩ := hg_some hF
    refine jv_getR hC fl_X12_81 dX12_readGuild_132 rfl g1 g29 ?_
    refine jv_bipush hC dX12_readGuild_135 c8_83 ?_
    refine jv_dup2 hC dX12_readGuild_137 rfl rfl ?_
    obtain ⟨g30, hF⟩ := hg_some hF
    obtain ⟨n31, sn31, in31⟩ := hm_ib_ok g30
    refine jv_iaload hC dX12_readGuild_138 sn31 in31 ?_
    refine jv_iconst hC dX12_readGuild_139 c32_1 ?_
    refine jv_pc 140 rfl ?_
    refine jv_iadd hC dX12_readGuild_140 ?_
    refine jv_iastore hC dX12_readGuild_141 sn31 in31 ?_
    obtain ⟨M32, e33, hF⟩ := hl_some hF
    refine jv_mem e33 ?_
    obtain rfl := hr_somev hF
    exact jv_vret hC dX12_readGuild_142
  · have hF := hi_neg h2 hF
    obtain rfl := hr_somev hF
    exact jv_vret hC dX12_readGuild_64
set_option maxRecDepth 100000 in
set_option maxHeartbeats 4000000 in
theorem k_Md_readGuild {n : Nat} {S : hm_S} {v0 : Nat} {M : hm_M} {M' : hm_M} (hF : f_Md_readGuild S v0 M = some M') : hm_KM yX12_readGuild cX12_readGuild 2 none 5 n S [.ref v0] M none M' := by
  refine hm_enter mm_Md_readGuild (Nat.le_of_ble_eq_true rfl) (fun X hC => ?_)
  show hm_U X 0 [(0, .ref v0)] [] M _
  unfold f_Md_readGuild at hF
  refine jv_aload_n hC 0 dX12_readGuild_0 rfl ?_
  obtain ⟨g1, hF⟩ := hg_some hF
  obtain ⟨g2, hF⟩ := hg_some hF
  refine jv_getR hC fl_X12_81 dX12_readGuild_1 rfl g1 g2 ?_
  refine jv_bipush hC dX12_readGuild_4 c8_83 ?_
  obtain ⟨g3, hF⟩ := hg_some hF
  obtain ⟨n4, sn4, in4⟩ := hm_ib_ok g3
  refine jv_iaload hC dX12_readGuild_6 sn4 in4 ?_
  obtain ⟨x5, e6, hF⟩ := hl_some hF
  refine jv_topI e6 ?_
  refine jv_istore_n hC [(1, .int x5), (0, .ref v0)] dX12_readGuild_7 (by decide) rfl ?_
  refine jv_iload_n hC 0 dX12_readGuild_8 rfl ?_
  refine jv_bipush hC dX12_readGuild_9 c8_6 ?_
  refine jv_pc 11 rfl ?_
  refine jv_icmp_ne hC 20 dX12_readGuild_11 (by decide) (fun h7 => ?_) (fun h7 => ?_)
  · have hF := hi_neg h7 hF
    refine jv_aload_n hC 1 dX12_readGuild_20 rfl ?_
    refine jv_dup hC dX12_readGuild_21 rfl ?_
    refine jv_getI hC fl_X12_156 dX12_readGuild_22 rfl g1 ?_
    refine jv_iconst hC dX12_readGuild_25 c32_1 ?_
    refine jv_iadd hC dX12_readGuild_26 ?_
    refine jv_putI hC fl_X12_156 dX12_readGuild_27 rfl rfl rfl g1 ?_
    obtain ⟨M8, e9, hF⟩ := hl_some hF
    refine jv_mem e9 ?_
    refine jv_aload_n hC 1 dX12_readGuild_30 rfl ?_
    refine jv_pc 31 rfl ?_
    obtain ⟨r12, M11, c10, hF⟩ := hb_some hF
    refine jv_callV hC (st := []) [] (k_Md_isName c10) mm_Md_isName mi_Md_isName ml_X12_219 dX12_readGuild_31 g1 rfl (Nat.le_of_ble_eq_true rfl) rfl rfl (Nat.le_of_ble_eq_true rfl) ?_
    refine jv_nf 34 [.int r12] rfl rfl ?_
    refine jv_if_ne hC 45 dX12_readGuild_34 (by decide) (fun h13 => ?_) (fun h13 => ?_)
    · have hF := hi_neg h13 hF
      refine jv_aload_n hC 1 dX12_readGuild_45 rfl ?_
      obtain ⟨r16, M15, c14, hF⟩ := hb_some hF
      refine jv_callV hC (st := []) [] (k_Md_find c14) mm_Md_find mi_Md_find ml_X12_223 dX12_readGuild_46 g1 rfl (Nat.le_of_ble_eq_true rfl) rfl rfl (Nat.le_of_ble_eq_true rfl) ?_
      refine jv_nf 49 [.int r16] rfl rfl ?_
      refine jv_if_lt hC 57 dX12_readGuild_49 (by decide) (fun h17 => ?_) (fun h17 => ?_)
      · have hF := hi_pos h17 hF
        refine jv_sub [1, 0] (ls' := [(0, .ref v0), (1, .int x5)]) rfl ?_
        exact jv_pc 57 rfl (s_Md_readGuild_1 hC hF)
      · have hF := hi_neg h17 hF
        refine jv_aload_n hC 1 dX12_readGuild_52 rfl ?_
        refine jv_iconst hC dX12_readGuild_53 c32_3 ?_
        obtain ⟨M19, c18, hF⟩ := hv_some hF
        refine jv_callV hC (st := []) [.int (3 : Int32)] (k_Md_wrong c18) mm_Md_wrong mi_Md_wrong ml_X12_165 dX12_readGuild_54 g1 rfl (Nat.le_of_ble_eq_true rfl) rfl rfl (Nat.le_of_ble_eq_true rfl) ?_
        refine jv_nf 57 [] rfl rfl ?_
        refine jv_sub [1, 0] (ls' := [(0, .ref v0), (1, .int x5)]) rfl ?_
        exact jv_pc 57 rfl (s_Md_readGuild_1 hC hF)
    · have hF := hi_pos h13 hF
      refine jv_aload_n hC 1 dX12_readGuild_37 rfl ?_
      refine jv_iconst hC dX12_readGuild_38 c32_1 ?_
      obtain ⟨M21, c20, hF⟩ := hv_some hF
      refine jv_callV hC (st := []) [.int (1 : Int32)] (k_Md_wrong c20) mm_Md_wrong mi_Md_wrong ml_X12_165 dX12_readGuild_39 g1 rfl (Nat.le_of_ble_eq_true rfl) rfl rfl (Nat.le_of_ble_eq_true rfl) ?_
      refine jv_nf 42 [] rfl rfl ?_
      refine jv_goto hC 57 dX12_readGuild_42 (by decide) ?_
      refine jv_sub [1, 0] (ls' := [(0, .ref v0), (1, .int x5)]) rfl ?_
      exact jv_pc 57 rfl (s_Md_readGuild_1 hC hF)
  · have hF := hi_pos h7 hF
    refine jv_aload_n hC 1 dX12_readGuild_14 rfl ?_
    refine jv_iconst hC dX12_readGuild_15 c32_5 ?_
    obtain ⟨M23, c22, hF⟩ := hv_some hF
    refine jv_callV hC (st := []) [.int (5 : Int32)] (k_Md_wrong c22) mm_Md_wrong mi_Md_wrong ml_X12_165 dX12_readGuild_16 g1 rfl (Nat.le_of_ble_eq_true rfl) rfl rfl (Nat.le_of_ble_eq_true rfl) ?_
    refine jv_nf 19 [] rfl rfl ?_
    obtain rfl := hr_somev hF
    exact jv_vret hC dX12_readGuild_19
set_option maxRecDepth 100000 in
set_option maxHeartbeats 4000000 in
theorem s_Md_readPane_4 {X : hm_X} {n : Nat} {S : hm_S} (hC : hm_C X RX12 cX12_readPane 5 none 5 n S) {v0 : Nat} {v2 : Int32} {M : hm_M} {M' : hm_M} (hF : b_Md_readPane_4 S v0 v2 M = some M') : hm_U X 195 [(0, .ref v0), (2, .int v2)] [] M (hm_Q X none M') := by
  unfold b_Md_readPane_4 at hF
  refine jv_aload_n hC 0 dX12_readPane_195 rfl ?_
  obtain ⟨g1, hF⟩ := hg_some hF
  refine jv_getI hC fl_X12_159 dX12_readPane_196 rfl g1 ?_
  refine jv_if_le hC 203 dX12_readPane_199 (by decide) (fun h2 => ?_) (fun h2 => ?_)
  · have hF := hi_pos h2 hF
    refine jv_aload_n hC 0 dX12_readPane_203 rfl ?_
    obtain ⟨g3, hF⟩ := hg_some hF
    refine jv_getR hC fl_X12_81 dX12_readPane_204 rfl g1 g3 ?_
    refine jv_iload_n hC 1 dX12_readPane_207 rfl ?_
    refine jv_iconst hC dX12_readPane_208 c32_2 ?_
    refine jv_iadd hC dX12_readPane_209 ?_
    refine jv_aload_n hC 0 dX12_readPane_210 rfl ?_
    obtain ⟨r6, M5, c4, hF⟩ := hb_some hF
    refine jv_callV hC (st := [.int (v2 + (2 : Int32)), .ref (M.2.2 v0 10)]) [] (k_Md_find c4) mm_Md_find mi_Md_find ml_X12_223 dX12_readPane_211 g1 rfl (Nat.le_of_ble_eq_true rfl) rfl rfl (Nat.le_of_ble_eq_true rfl) ?_
    refine jv_nf 214 [.int r6, .int (v2 + (2 : Int32)), .ref (M.2.2 v0 10)] rfl rfl ?_
    obtain ⟨g7, hF⟩ := hg_some hF
    obtain ⟨n8, sn8, in8⟩ := hm_ib_ok g7
    refine jv_iastore hC dX12_readPane_214 sn8 in8 ?_
    obtain ⟨M9, e10, hF⟩ := hl_some hF
    refine jv_mem e10 ?_
    refine jv_aload_n hC 0 dX12_readPane_215 rfl ?_
    refine jv_dup hC dX12_readPane_216 rfl ?_
    refine jv_getI hC fl_X12_156 dX12_readPane_217 rfl g1 ?_
    refine jv_iconst hC dX12_readPane_220 c32_1 ?_
    refine jv_iadd hC dX12_readPane_221 ?_
    refine jv_putI hC fl_X12_156 dX12_readPane_222 rfl rfl rfl g1 ?_
    obtain ⟨M11, e12, hF⟩ := hl_some hF
    refine jv_mem e12 ?_
    refine jv_pc 225 rfl ?_
    refine jv_aload_n hC 0 dX12_readPane_225 rfl ?_
    obtain ⟨g13, hF⟩ := hg_some hF
    refine jv_getR hC fl_X12_81 dX12_readPane_226 rfl g1 g13 ?_
    refine jv_iload_n hC 1 dX12_readPane_229 rfl ?_
    refine jv_iconst hC dX12_readPane_230 c32_3 ?_
    refine jv_iadd hC dX12_readPane_231 ?_
    refine jv_aload_n hC 0 dX12_readPane_232 rfl ?_
    refine jv_bipush hC dX12_readPane_233 c8_6 ?_
    refine jv_iconst hC dX12_readPane_235 c32_1 ?_
    refine jv_pc 236 rfl ?_
    refine jv_bipush hC dX12_readPane_236 c8_7 ?_
    obtain ⟨r16, M15, c14, hF⟩ := hb_some hF
    refine jv_callV hC (st := [.int (v2 + (3 : Int32)), .ref (M11.2.2 v0 10)]) [.int (6 : Int32), .int (1 : Int32), .int (7 : Int32)] (k_Md_takeAfter c14) mm_Md_takeAfter mi_Md_takeAfter ml_X12_227 dX12_readPane_238 g1 rfl (Nat.le_of_ble_eq_true rfl) rfl rfl (Nat.le_of_ble_eq_true rfl) ?_
    refine jv_nf 241 [.int r16, .int (v2 + (3 : Int32)), .ref (M11.2.2 v0 10)] rfl rfl ?_
    obtain ⟨g17, hF⟩ := hg_some hF
    obtain ⟨n18, sn18, in18⟩ := hm_ib_ok g17
    refine jv_iastore hC dX12_readPane_241 sn18 in18 ?_
    obtain ⟨M19, e20, hF⟩ := hl_some hF
    refine jv_mem e20 ?_
    refine jv_aload_n hC 0 dX12_readPane_242 rfl ?_
    obtain ⟨g21, hF⟩ := hg_some hF
    refine jv_getR hC fl_X12_81 dX12_readPane_243 rfl g1 g21 ?_
    refine jv_bipush hC dX12_readPane_246 c8_84 ?_
    refine jv_dup2 hC dX12_readPane_248 rfl rfl ?_
    obtain ⟨g22, hF⟩ := hg_some hF
    obtain ⟨n23, sn23, in23⟩ := hm_ib_ok g22
    refine jv_iaload hC dX12_readPane_249 sn23 in23 ?_
    refine jv_iconst hC dX12_readPane_250 c32_1 ?_
    refine jv_pc 251 rfl ?_
    refine jv_iadd hC dX12_readPane_251 ?_
    refine jv_iastore hC dX12_readPane_252 sn23 in23 ?_
    obtain ⟨M24, e25, hF⟩ := hl_some hF
    refine jv_mem e25 ?_
    obtain rfl := hr_somev hF
    exact jv_vret hC dX12_readPane_253
  · have hF := hi_neg h2 hF
    obtain rfl := hr_somev hF
    exact jv_vret hC dX12_readPane_202
set_option maxRecDepth 100000 in
set_option maxHeartbeats 4000000 in
theorem s_Md_readPane_3 {X : hm_X} {n : Nat} {S : hm_S} (hC : hm_C X RX12 cX12_readPane 5 none 5 n S) {v0 : Nat} {v2 : Int32} {M : hm_M} {M' : hm_M} (hF : b_Md_readPane_3 S v0 v2 M = some M') : hm_U X 176 [(0, .ref v0), (2, .int v2)] [] M (hm_Q X none M') := by
  unfold b_Md_readPane_3 at hF
  refine jv_aload_n hC 0 dX12_readPane_176 rfl ?_
  obtain ⟨g1, hF⟩ := hg_some hF
  refine jv_getI hC fl_X12_159 dX12_readPane_177 rfl g1 ?_
  refine jv_if_ne hC 195 dX12_readPane_180 (by decide) (fun h2 => ?_) (fun h2 => ?_)
  · have hF := hi_neg h2 hF
    exact jv_pc 195 rfl (s_Md_readPane_4 hC hF)
  · have hF := hi_pos h2 hF
    refine jv_aload_n hC 0 dX12_readPane_183 rfl ?_
    obtain ⟨r5, M4, c3, hF⟩ := hb_some hF
    refine jv_callV hC (st := []) [] (k_Md_find c3) mm_Md_find mi_Md_find ml_X12_223 dX12_readPane_184 g1 rfl (Nat.le_of_ble_eq_true rfl) rfl rfl (Nat.le_of_ble_eq_true rfl) ?_
    refine jv_nf 187 [.int r5] rfl rfl ?_
    refine jv_if_ge hC 195 dX12_readPane_187 (by decide) (fun h6 => ?_) (fun h6 => ?_)
    · have hF := hi_pos h6 hF
      exact jv_pc 195 rfl (s_Md_readPane_4 hC hF)
    · have hF := hi_neg h6 hF
      refine jv_aload_n hC 0 dX12_readPane_190 rfl ?_
      refine jv_iconst hC dX12_readPane_191 c32_2 ?_
      obtain ⟨M8, c7, hF⟩ := hv_some hF
      refine jv_callV hC (st := []) [.int (2 : Int32)] (k_Md_wrong c7) mm_Md_wrong mi_Md_wrong ml_X12_165 dX12_readPane_192 g1 rfl (Nat.le_of_ble_eq_true rfl) rfl rfl (Nat.le_of_ble_eq_true rfl) ?_
      refine jv_nf 195 [] rfl rfl ?_
      exact jv_pc 195 rfl (s_Md_readPane_4 hC hF)
set_option maxRecDepth 100000 in
set_option maxHeartbeats 4000000 in
theorem s_Md_readPane_2 {X : hm_X} {n : Nat} {S : hm_S} (hC : hm_C X RX12 cX12_readPane 5 none 5 n S) {v0 : Nat} {v2 : Int32} {M : hm_M} {M' : hm_M} (hF : b_Md_readPane_2 S v0 v2 M = some M') : hm_U X 135 [(0, .ref v0), (2, .int v2)] [] M (hm_Q X none M') := by
  unfold b_Md_readPane_2 at hF
  refine jv_aload_n hC 0 dX12_readPane_135 rfl ?_
  obtain ⟨g1, hF⟩ := hg_some hF
  obtain ⟨g2, hF⟩ := hg_some hF
  refine jv_getR hC fl_X12_81 dX12_readPane_136 rfl g1 g2 ?_
  refine jv_iload_n hC 1 dX12_readPane_139 rfl ?_
  refine jv_iconst hC dX12_readPane_140 c32_1 ?_
  refine jv_iadd hC dX12_readPane_141 ?_
  refine jv_aload_n hC 0 dX12_readPane_142 rfl ?_
  refine jv_iconst hC dX12_readPane_143 c32_0 ?_
  refine jv_pc 144 rfl ?_
  refine jv_iconst hC dX12_readPane_144 c32_3 ?_
  obtain ⟨r5, M4, c3, hF⟩ := hb_some hF
  refine jv_callV hC (st := [.int (v2 + (1 : Int32)), .ref (M.2.2 v0 10)]) [.int (0 : Int32), .int (3 : Int32)] (k_Md_takeNumber c3) mm_Md_takeNumber mi_Md_takeNumber ml_X12_178 dX12_readPane_145 g1 rfl (Nat.le_of_ble_eq_true rfl) rfl rfl (Nat.le_of_ble_eq_true rfl) ?_
  refine jv_nf 148 [.int r5, .int (v2 + (1 : Int32)), .ref (M.2.2 v0 10)] rfl rfl ?_
  obtain ⟨g6, hF⟩ := hg_some hF
  obtain ⟨n7, sn7, in7⟩ := hm_ib_ok g6
  refine jv_iastore hC dX12_readPane_148 sn7 in7 ?_
  obtain ⟨M8, e9, hF⟩ := hl_some hF
  refine jv_mem e9 ?_
  refine jv_aload_n hC 0 dX12_readPane_149 rfl ?_
  refine jv_iconst hC dX12_readPane_150 c32_5 ?_
  obtain ⟨M11, c10, hF⟩ := hv_some hF
  refine jv_callV hC (st := []) [.int (5 : Int32)] (k_Md_takeWord c10) mm_Md_takeWord mi_Md_takeWord ml_X12_175 dX12_readPane_151 g1 rfl (Nat.le_of_ble_eq_true rfl) rfl rfl (Nat.le_of_ble_eq_true rfl) ?_
  refine jv_nf 154 [] rfl rfl ?_
  refine jv_aload_n hC 0 dX12_readPane_154 rfl ?_
  refine jv_getI hC fl_X12_159 dX12_readPane_155 rfl g1 ?_
  refine jv_if_ne hC 176 dX12_readPane_158 (by decide) (fun h12 => ?_) (fun h12 => ?_)
  · have hF := hi_neg h12 hF
    exact jv_pc 176 rfl (s_Md_readPane_3 hC hF)
  · have hF := hi_pos h12 hF
    refine jv_aload_n hC 0 dX12_readPane_161 rfl ?_
    obtain ⟨r15, M14, c13, hF⟩ := hb_some hF
    refine jv_callV hC (st := []) [] (k_Md_isName c13) mm_Md_isName mi_Md_isName ml_X12_219 dX12_readPane_162 g1 rfl (Nat.le_of_ble_eq_true rfl) rfl rfl (Nat.le_of_ble_eq_true rfl) ?_
    refine jv_nf 165 [.int r15] rfl rfl ?_
    refine jv_if_ne hC 176 dX12_readPane_165 (by decide) (fun h16 => ?_) (fun h16 => ?_)
    · have hF := hi_neg h16 hF
      exact jv_pc 176 rfl (s_Md_readPane_3 hC hF)
    · have hF := hi_pos h16 hF
      refine jv_aload_n hC 0 dX12_readPane_168 rfl ?_
      refine jv_iconst hC dX12_readPane_169 c32_1 ?_
      obtain ⟨M18, c17, hF⟩ := hv_some hF
      refine jv_callV hC (st := []) [.int (1 : Int32)] (k_Md_wrong c17) mm_Md_wrong mi_Md_wrong ml_X12_165 dX12_readPane_170 g1 rfl (Nat.le_of_ble_eq_true rfl) rfl rfl (Nat.le_of_ble_eq_true rfl) ?_
      refine jv_nf 173 [] rfl rfl ?_
      refine jv_goto hC 195 dX12_readPane_173 (by decide) ?_
      exact jv_pc 195 rfl (s_Md_readPane_4 hC hF)
set_option maxRecDepth 100000 in
set_option maxHeartbeats 4000000 in
theorem t_Md_readPane_1 {X : hm_X} {n : Nat} {S : hm_S} (hC : hm_C X RX12 cX12_readPane 5 none 5 n S) {k52 : Nat → Int32 → Int32 → Int32 → hm_M → Option hm_M} (hk52 : ∀ (v0 : Nat) (v1 : Int32) (v2 : Int32) (v3 : Int32)  (M : hm_M) (M' : hm_M), k52 v0 v1 v2 v3 M = some M' → hm_U X 52 [(0, .ref v0), (1, .int v1), (2, .int v2), (3, .int v3)] [] M (hm_Q X none M')) {v0 : Nat} {v1 : Int32} {v2 : Int32} {v3 : Int32} {M : hm_M} {M' : hm_M} (hF : b_Md_readPane_1 S k52 v0 v1 v2 v3 M = some M') : hm_U X 52 [(0, .ref v0), (1, .int v1), (2, .int v2), (3, .int v3)] [] M (hm_Q X none M') := by
  unfold b_Md_readPane_1 at hF
  refine jv_iload_n hC 3 dX12_readPane_52 rfl ?_
  refine jv_iload_n hC 1 dX12_readPane_53 rfl ?_
  refine jv_icmp_ge hC 135 dX12_readPane_54 (by decide) (fun h1 => ?_) (fun h1 => ?_)
  · have hF := hi_pos h1 hF
    refine jv_sub [0, 2] (ls' := [(0, .ref v0), (2, .int v2)]) rfl ?_
    exact jv_pc 135 rfl (s_Md_readPane_2 hC hF)
  · have hF := hi_neg h1 hF
    refine jv_aload_n hC 0 dX12_readPane_57 rfl ?_
    obtain ⟨g2, hF⟩ := hg_some hF
    refine jv_getI hC fl_X12_159 dX12_readPane_58 rfl g2 ?_
    refine jv_if_ne hC 135 dX12_readPane_61 (by decide) (fun h3 => ?_) (fun h3 => ?_)
    · have hF := hi_neg h3 hF
      refine jv_sub [0, 2] (ls' := [(0, .ref v0), (2, .int v2)]) rfl ?_
      exact jv_pc 135 rfl (s_Md_readPane_2 hC hF)
    · have hF := hi_pos h3 hF
      refine jv_bipush hC dX12_readPane_64 c8_97 ?_
      refine jv_iconst hC dX12_readPane_66 c32_4 ?_
      refine jv_iload_n hC 3 dX12_readPane_67 rfl ?_
      refine jv_imul hC dX12_readPane_68 ?_
      refine jv_iadd hC dX12_readPane_69 ?_
      obtain ⟨x4, e5, hF⟩ := hl_some hF
      refine jv_topI e5 ?_
      refine jv_istore hC [(4, .int x4), (0, .ref v0), (1, .int v1), (2, .int v2), (3, .int v3)] dX12_readPane_70 (by decide) rfl ?_
      refine jv_aload_n hC 1 dX12_readPane_72 rfl ?_
      refine jv_pc 73 rfl ?_
      obtain ⟨g6, hF⟩ := hg_some hF
      refine jv_getR hC fl_X12_24 dX12_readPane_73 rfl g2 g6 ?_
      refine jv_aload_n hC 1 dX12_readPane_76 rfl ?_
      refine jv_getI hC fl_X12_156 dX12_readPane_77 rfl g2 ?_
      obtain ⟨g7, hF⟩ := hg_some hF
      obtain ⟨n8, sn8, in8⟩ := hm_ib_ok g7
      refine jv_iaload hC dX12_readPane_80 sn8 in8 ?_
      refine jv_iconst hC dX12_readPane_81 c32_2 ?_
      refine jv_icmp_ne hC 129 dX12_readPane_82 (by decide) (fun h9 => ?_) (fun h9 => ?_)
      · have hF := hi_neg h9 hF
        refine jv_iinc hC 4 [(3, .int (v3 + (1 : Int32))), (4, .int x4), (0, .ref v0), (1, .int v1), (2, .int v2)] dX12_readPane_129 rfl c32_1 (by decide) rfl ?_
        refine jv_goto hC 52 dX12_readPane_132 (by decide) ?_
        refine jv_sub [2, 3, 4, 0] (ls' := [(0, .ref v0), (1, .int v1), (2, .int v2), (3, .int (v3 + (1 : Int32)))]) rfl ?_
        exact jv_pc 52 rfl (hk52 _ _ _ _ _ _ hF)
      · have hF := hi_pos h9 hF
        refine jv_aload_n hC 1 dX12_readPane_85 rfl ?_
        obtain ⟨g10, hF⟩ := hg_some hF
        refine jv_getR hC fl_X12_81 dX12_readPane_86 rfl g2 g10 ?_
        refine jv_iload hC 0 dX12_readPane_89 rfl ?_
        obtain ⟨g11, hF⟩ := hg_some hF
        obtain ⟨n12, sn12, in12⟩ := hm_ib_ok g11
        refine jv_iaload hC dX12_readPane_91 sn12 in12 ?_
        refine jv_aload_n hC 1 dX12_readPane_92 rfl ?_
        refine jv_getR hC fl_X12_81 dX12_readPane_93 rfl g2 g10 ?_
        refine jv_iload_n hC 3 dX12_readPane_96 rfl ?_
        refine jv_pc 97 rfl ?_
        obtain ⟨g13, hF⟩ := hg_some hF
        obtain ⟨n14, sn14, in14⟩ := hm_ib_ok g13
        refine jv_iaload hC dX12_readPane_97 sn14 in14 ?_
        refine jv_icmp_ne hC 129 dX12_readPane_98 (by decide) (fun h15 => ?_) (fun h15 => ?_)
        · have hF := hi_neg h15 hF
          refine jv_iinc hC 4 [(3, .int (v3 + (1 : Int32))), (4, .int x4), (0, .ref v0), (1, .int v1), (2, .int v2)] dX12_readPane_129 rfl c32_1 (by decide) rfl ?_
          refine jv_goto hC 52 dX12_readPane_132 (by decide) ?_
          refine jv_sub [2, 3, 4, 0] (ls' := [(0, .ref v0), (1, .int v1), (2, .int v2), (3, .int (v3 + (1 : Int32)))]) rfl ?_
          exact jv_pc 52 rfl (hk52 _ _ _ _ _ _ hF)
        · have hF := hi_pos h15 hF
          refine jv_aload_n hC 1 dX12_readPane_101 rfl ?_
          refine jv_getR hC fl_X12_81 dX12_readPane_102 rfl g2 g10 ?_
          refine jv_iload hC 0 dX12_readPane_105 rfl ?_
          refine jv_iconst hC dX12_readPane_107 c32_1 ?_
          refine jv_iadd hC dX12_readPane_108 ?_
          obtain ⟨g16, hF⟩ := hg_some hF
          obtain ⟨n17, sn17, in17⟩ := hm_ib_ok g16
          refine jv_iaload hC dX12_readPane_109 sn17 in17 ?_
          refine jv_i2l hC dX12_readPane_110 ?_
          refine jv_pc 111 rfl ?_
          refine jv_aload_n hC 1 dX12_readPane_111 rfl ?_
          obtain ⟨g18, hF⟩ := hg_some hF
          refine jv_getR hC fl_X12_30 dX12_readPane_112 rfl g2 g18 ?_
          refine jv_aload_n hC 1 dX12_readPane_115 rfl ?_
          refine jv_getI hC fl_X12_156 dX12_readPane_116 rfl g2 ?_
          obtain ⟨g19, hF⟩ := hg_some hF
          obtain ⟨n20, sn20, in20⟩ := hm_ib_ok g19
          refine jv_laload hC dX12_readPane_119 sn20 in20 ?_
          refine jv_lcmp hC dX12_readPane_120 ?_
          refine jv_if_ne hC 129 dX12_readPane_121 (by decide) (fun h21 => ?_) (fun h21 => ?_)
          · have hF := hi_neg h21 hF
            refine jv_iinc hC 4 [(3, .int (v3 + (1 : Int32))), (4, .int x4), (0, .ref v0), (1, .int v1), (2, .int v2)] dX12_readPane_129 rfl c32_1 (by decide) rfl ?_
            refine jv_goto hC 52 dX12_readPane_132 (by decide) ?_
            refine jv_sub [2, 3, 4, 0] (ls' := [(0, .ref v0), (1, .int v1), (2, .int v2), (3, .int (v3 + (1 : Int32)))]) rfl ?_
            exact jv_pc 52 rfl (hk52 _ _ _ _ _ _ hF)
          · have hF := hi_pos h21 hF
            refine jv_aload_n hC 1 dX12_readPane_124 rfl ?_
            refine jv_iconst hC dX12_readPane_125 c32_3 ?_
            obtain ⟨M23, c22, hF⟩ := hv_some hF
            refine jv_callV hC (st := []) [.int (3 : Int32)] (k_Md_wrong c22) mm_Md_wrong mi_Md_wrong ml_X12_165 dX12_readPane_126 g2 rfl (Nat.le_of_ble_eq_true rfl) rfl rfl (Nat.le_of_ble_eq_true rfl) ?_
            refine jv_nf 129 [] rfl rfl ?_
            refine jv_iinc hC 4 [(3, .int (v3 + (1 : Int32))), (4, .int x4), (0, .ref v0), (1, .int v1), (2, .int v2)] dX12_readPane_129 rfl c32_1 (by decide) rfl ?_
            refine jv_goto hC 52 dX12_readPane_132 (by decide) ?_
            refine jv_sub [2, 3, 4, 0] (ls' := [(0, .ref v0), (1, .int v1), (2, .int v2), (3, .int (v3 + (1 : Int32)))]) rfl ?_
            exact jv_pc 52 rfl (hk52 _ _ _ _ _ _ hF)
theorem s_Md_readPane_1 {X : hm_X} {n : Nat} {S : hm_S} (hC : hm_C X RX12 cX12_readPane 5 none 5 n S) : ∀ (q : Nat) (v0 : Nat) (v1 : Int32) (v2 : Int32) (v3 : Int32) (M : hm_M) (M' : hm_M), f_Md_readPane_1 S  q v0 v1 v2 v3 M = some M' → hm_U X 52 [(0, .ref v0), (1, .int v1), (2, .int v2), (3, .int v3)] [] M (hm_Q X none M') := by
  intro q
  induction q with
  | zero => intro v0 v1 v2 v3 M M' hF; cases hF
  | succ q ih => intro v0 v1 v2 v3 M M' hF; exact t_Md_readPane_1 hC ih hF
set_option maxRecDepth 100000 in
set_option maxHeartbeats 4000000 in
theorem k_Md_readPane {n : Nat} {S : hm_S} {v0 : Nat} {M : hm_M} {M' : hm_M} (hF : f_Md_readPane S v0 M = some M') : hm_KM yX12_readPane cX12_readPane 5 none 5 n S [.ref v0] M none M' := by
  refine hm_enter mm_Md_readPane (Nat.le_of_ble_eq_true rfl) (fun X hC => ?_)
  show hm_U X 0 [(0, .ref v0)] [] M _
  unfold f_Md_readPane at hF
  refine jv_aload_n hC 0 dX12_readPane_0 rfl ?_
  obtain ⟨g1, hF⟩ := hg_some hF
  obtain ⟨g2, hF⟩ := hg_some hF
  refine jv_getR hC fl_X12_81 dX12_readPane_1 rfl g1 g2 ?_
  refine jv_bipush hC dX12_readPane_4 c8_84 ?_
  obtain ⟨g3, hF⟩ := hg_some hF
  obtain ⟨n4, sn4, in4⟩ := hm_ib_ok g3
  refine jv_iaload hC dX12_readPane_6 sn4 in4 ?_
  obtain ⟨x5, e6, hF⟩ := hl_some hF
  refine jv_topI e6 ?_
  refine jv_istore_n hC [(1, .int x5), (0, .ref v0)] dX12_readPane_7 (by decide) rfl ?_
  refine jv_iload_n hC 0 dX12_readPane_8 rfl ?_
  refine jv_bipush hC dX12_readPane_9 c8_12 ?_
  refine jv_pc 11 rfl ?_
  refine jv_icmp_ne hC 20 dX12_readPane_11 (by decide) (fun h7 => ?_) (fun h7 => ?_)
  · have hF := hi_neg h7 hF
    refine jv_aload_n hC 1 dX12_readPane_20 rfl ?_
    refine jv_dup hC dX12_readPane_21 rfl ?_
    refine jv_getI hC fl_X12_156 dX12_readPane_22 rfl g1 ?_
    refine jv_iconst hC dX12_readPane_25 c32_1 ?_
    refine jv_iadd hC dX12_readPane_26 ?_
    refine jv_putI hC fl_X12_156 dX12_readPane_27 rfl rfl rfl g1 ?_
    obtain ⟨M8, e9, hF⟩ := hl_some hF
    refine jv_mem e9 ?_
    refine jv_bipush hC dX12_readPane_30 c8_97 ?_
    refine jv_pc 32 rfl ?_
    refine jv_iconst hC dX12_readPane_32 c32_4 ?_
    refine jv_iload_n hC 0 dX12_readPane_33 rfl ?_
    refine jv_imul hC dX12_readPane_34 ?_
    refine jv_iadd hC dX12_readPane_35 ?_
    obtain ⟨x10, e11, hF⟩ := hl_some hF
    refine jv_topI e11 ?_
    refine jv_istore_n hC [(2, .int x10), (1, .int x5), (0, .ref v0)] dX12_readPane_36 (by decide) rfl ?_
    refine jv_aload_n hC 2 dX12_readPane_37 rfl ?_
    obtain ⟨g12, hF⟩ := hg_some hF
    refine jv_getR hC fl_X12_81 dX12_readPane_38 rfl g1 g12 ?_
    refine jv_iload_n hC 0 dX12_readPane_41 rfl ?_
    refine jv_pc 42 rfl ?_
    refine jv_aload_n hC 2 dX12_readPane_42 rfl ?_
    refine jv_iconst hC dX12_readPane_43 c32_0 ?_
    refine jv_bipush hC dX12_readPane_44 c8_7 ?_
    obtain ⟨r15, M14, c13, hF⟩ := hb_some hF
    refine jv_callV hC (st := [.int x10, .ref (M8.2.2 v0 10)]) [.int (0 : Int32), .int (7 : Int32)] (k_Md_takeNumber c13) mm_Md_takeNumber mi_Md_takeNumber ml_X12_178 dX12_readPane_46 g1 rfl (Nat.le_of_ble_eq_true rfl) rfl rfl (Nat.le_of_ble_eq_true rfl) ?_
    refine jv_nf 49 [.int r15, .int x10, .ref (M8.2.2 v0 10)] rfl rfl ?_
    obtain ⟨g16, hF⟩ := hg_some hF
    obtain ⟨n17, sn17, in17⟩ := hm_ib_ok g16
    refine jv_iastore hC dX12_readPane_49 sn17 in17 ?_
    obtain ⟨M18, e19, hF⟩ := hl_some hF
    refine jv_mem e19 ?_
    refine jv_iconst hC dX12_readPane_50 c32_0 ?_
    refine jv_istore_n hC [(3, .int (0 : Int32)), (2, .int x10), (1, .int x5), (0, .ref v0)] dX12_readPane_51 (by decide) rfl ?_
    refine jv_sub [3, 2, 1, 0] (ls' := [(0, .ref v0), (1, .int x5), (2, .int x10), (3, .int (0 : Int32))]) rfl ?_
    exact jv_pc 52 rfl (s_Md_readPane_1 hC hN _ _ _ _ _ _ hF)
  · have hF := hi_pos h7 hF
    refine jv_aload_n hC 1 dX12_readPane_14 rfl ?_
    refine jv_iconst hC dX12_readPane_15 c32_5 ?_
    obtain ⟨M21, c20, hF⟩ := hv_some hF
    refine jv_callV hC (st := []) [.int (5 : Int32)] (k_Md_wrong c20) mm_Md_wrong mi_Md_wrong ml_X12_165 dX12_readPane_16 g1 rfl (Nat.le_of_ble_eq_true rfl) rfl rfl (Nat.le_of_ble_eq_true rfl) ?_
    refine jv_nf 19 [] rfl rfl ?_
    obtain rfl := hr_somev hF
    exact jv_vret hC dX12_readPane_19
set_option maxRecDepth 100000 in
set_option maxHeartbeats 4000000 in
theorem k_Md_readCloud {n : Nat} {S : hm_S} {v0 : Nat} {M : hm_M} {M' : hm_M} (hF : f_Md_readCloud S v0 M = some M') : hm_KM yX12_readCloud cX12_readCloud 1 none 3 n S [.ref v0] M none M' := by
  refine hm_enter mm_Md_readCloud (Nat.le_of_ble_eq_true rfl) (fun X hC => ?_)
  show hm_U X 0 [(0, .ref v0)] [] M _
  unfold f_Md_readCloud at hF
  refine jv_aload_n hC 0 dX12_readCloud_0 rfl ?_
  obtain ⟨g1, hF⟩ := hg_some hF
  refine jv_getI hC fl_X12_192 dX12_readCloud_1 rfl g1 ?_
  refine jv_if_eq hC 13 dX12_readCloud_4 (by decide) (fun h2 => ?_) (fun h2 => ?_)
  · have hF := hi_pos h2 hF
    refine jv_aload_n hC 0 dX12_readCloud_13 rfl ?_
    refine jv_iconst hC dX12_readCloud_14 c32_1 ?_
    refine jv_putI hC fl_X12_192 dX12_readCloud_15 rfl (by decide) (by decide) g1 ?_
    obtain ⟨M3, e4, hF⟩ := hl_some hF
    refine jv_mem e4 ?_
    refine jv_aload_n hC 0 dX12_readCloud_18 rfl ?_
    refine jv_dup hC dX12_readCloud_19 rfl ?_
    refine jv_getI hC fl_X12_156 dX12_readCloud_20 rfl g1 ?_
    refine jv_iconst hC dX12_readCloud_23 c32_1 ?_
    refine jv_pc 24 rfl ?_
    refine jv_iadd hC dX12_readCloud_24 ?_
    refine jv_putI hC fl_X12_156 dX12_readCloud_25 rfl rfl rfl g1 ?_
    obtain ⟨M5, e6, hF⟩ := hl_some hF
    refine jv_mem e6 ?_
    refine jv_aload_n hC 0 dX12_readCloud_28 rfl ?_
    obtain ⟨g7, hF⟩ := hg_some hF
    refine jv_getR hC fl_X12_81 dX12_readCloud_29 rfl g1 g7 ?_
    refine jv_bipush hC dX12_readCloud_32 c8_82 ?_
    refine jv_aload_n hC 0 dX12_readCloud_34 rfl ?_
    refine jv_iconst hC dX12_readCloud_35 c32_0 ?_
    refine jv_bipush hC dX12_readCloud_36 c8_8 ?_
    refine jv_pc 38 rfl ?_
    obtain ⟨r10, M9, c8, hF⟩ := hb_some hF
    refine jv_callV hC (st := [.int (82 : Int32), .ref (M5.2.2 v0 10)]) [.int (0 : Int32), .int (8 : Int32)] (k_Md_takeNumber c8) mm_Md_takeNumber mi_Md_takeNumber ml_X12_178 dX12_readCloud_38 g1 rfl (Nat.le_of_ble_eq_true rfl) rfl rfl (Nat.le_of_ble_eq_true rfl) ?_
    refine jv_nf 41 [.int r10, .int (82 : Int32), .ref (M5.2.2 v0 10)] rfl rfl ?_
    obtain ⟨g11, hF⟩ := hg_some hF
    obtain ⟨n12, sn12, in12⟩ := hm_ib_ok g11
    refine jv_iastore hC dX12_readCloud_41 sn12 in12 ?_
    obtain ⟨M13, e14, hF⟩ := hl_some hF
    refine jv_mem e14 ?_
    obtain rfl := hr_somev hF
    exact jv_vret hC dX12_readCloud_42
  · have hF := hi_neg h2 hF
    refine jv_aload_n hC 0 dX12_readCloud_7 rfl ?_
    refine jv_iconst hC dX12_readCloud_8 c32_3 ?_
    obtain ⟨M16, c15, hF⟩ := hv_some hF
    refine jv_callV hC (st := []) [.int (3 : Int32)] (k_Md_wrong c15) mm_Md_wrong mi_Md_wrong ml_X12_165 dX12_readCloud_9 g1 rfl (Nat.le_of_ble_eq_true rfl) rfl rfl (Nat.le_of_ble_eq_true rfl) ?_
    refine jv_nf 12 [] rfl rfl ?_
    obtain rfl := hr_somev hF
    exact jv_vret hC dX12_readCloud_12
set_option maxRecDepth 100000 in
set_option maxHeartbeats 4000000 in
theorem s_Md_factHere_6 {X : hm_X} {n : Nat} {S : hm_S} (hC : hm_C X RX12 cX12_factHere 4 (some .int) 2 n S) {k4 : Nat → Int32 → Int32 → hm_M → Option (Int32 × hm_M)} (hk4 : ∀ (v0 : Nat) (v1 : Int32) (v2 : Int32)  (M : hm_M) (r : Int32) (M' : hm_M), k4 v0 v1 v2 M = some (r, M') → hm_U X 4 [(0, .ref v0), (1, .int v1), (2, .int v2)] [] M (hm_Q X (some (.int r)) M')) {v0 : Nat} {v2 : Int32} {s0 : Int32} {M : hm_M} {r : Int32} {M' : hm_M} (hF : b_Md_factHere_6 S k4 v0 v2 s0 M = some (r, M')) : hm_U X 67 [(0, .ref v0), (2, .int v2)] [.int s0] M (hm_Q X (some (.int r)) M') := by
  unfold b_Md_factHere_6 at hF
  refine jv_istore_n hC [(1, .int s0), (0, .ref v0), (2, .int v2)] dX12_factHere_67 (by decide) rfl ?_
  refine jv_iinc hC 2 [(2, .int (v2 + (1 : Int32))), (1, .int s0), (0, .ref v0)] dX12_factHere_68 rfl c32_1 (by decide) rfl ?_
  refine jv_goto hC 4 dX12_factHere_71 (by decide) ?_
  refine jv_sub [2, 1, 0] (ls' := [(0, .ref v0), (1, .int s0), (2, .int (v2 + (1 : Int32)))]) rfl ?_
  exact jv_pc 4 rfl (hk4 _ _ _ _ _ _ hF)
set_option maxRecDepth 100000 in
set_option maxHeartbeats 4000000 in
theorem s_Md_factHere_5 {X : hm_X} {n : Nat} {S : hm_S} (hC : hm_C X RX12 cX12_factHere 4 (some .int) 2 n S) {k4 : Nat → Int32 → Int32 → hm_M → Option (Int32 × hm_M)} (hk4 : ∀ (v0 : Nat) (v1 : Int32) (v2 : Int32)  (M : hm_M) (r : Int32) (M' : hm_M), k4 v0 v1 v2 M = some (r, M') → hm_U X 4 [(0, .ref v0), (1, .int v1), (2, .int v2)] [] M (hm_Q X (some (.int r)) M')) {v0 : Nat} {v1 : Int32} {v2 : Int32} {M : hm_M} {r : Int32} {M' : hm_M} (hF : b_Md_factHere_5 S k4 v0 v1 v2 M = some (r, M')) : hm_U X 66 [(0, .ref v0), (1, .int v1), (2, .int v2)] [] M (hm_Q X (some (.int r)) M') := by
  unfold b_Md_factHere_5 at hF
  refine jv_iload_n hC 1 dX12_factHere_66 rfl ?_
  refine jv_sub [0, 2] (ls' := [(0, .ref v0), (2, .int v2)]) rfl ?_
  exact jv_pc 67 rfl (s_Md_factHere_6 hC hk4 hF)
set_option maxRecDepth 100000 in
set_option maxHeartbeats 4000000 in
theorem s_Md_factHere_4 {X : hm_X} {n : Nat} {S : hm_S} (hC : hm_C X RX12 cX12_factHere 4 (some .int) 2 n S) {k4 : Nat → Int32 → Int32 → hm_M → Option (Int32 × hm_M)} (hk4 : ∀ (v0 : Nat) (v1 : Int32) (v2 : Int32)  (M : hm_M) (r : Int32) (M' : hm_M), k4 v0 v1 v2 M = some (r, M') → hm_U X 4 [(0, .ref v0), (1, .int v1), (2, .int v2)] [] M (hm_Q X (some (.int r)) M')) {v0 : Nat} {v1 : Int32} {v2 : Int32} {s0 : Int32} {M : hm_M} {r : Int32} {M' : hm_M} (hF : b_Md_factHere_4 S k4 v0 v1 v2 s0 M = some (r, M')) : hm_U X 46 [(0, .ref v0), (1, .int v1), (2, .int v2)] [.int s0] M (hm_Q X (some (.int r)) M') := by
  unfold b_Md_factHere_4 at hF
  refine jv_istore_n hC [(3, .int s0), (0, .ref v0), (1, .int v1), (2, .int v2)] dX12_factHere_46 (by decide) rfl ?_
  refine jv_iload_n hC 0 dX12_factHere_47 rfl ?_
  refine jv_if_eq hC 66 dX12_factHere_48 (by decide) (fun h1 => ?_) (fun h1 => ?_)
  · have hF := hi_pos h1 hF
    refine jv_sub [1, 2, 3] (ls' := [(0, .ref v0), (1, .int v1), (2, .int v2)]) rfl ?_
    exact jv_pc 66 rfl (s_Md_factHere_5 hC hk4 hF)
  · have hF := hi_neg h1 hF
    refine jv_aload_n hC 1 dX12_factHere_51 rfl ?_
    refine jv_bipush hC dX12_factHere_52 c8_15 ?_
    refine jv_iload_n hC 3 dX12_factHere_54 rfl ?_
    refine jv_iadd hC dX12_factHere_55 ?_
    obtain ⟨g2, hF⟩ := hg_some hF
    obtain ⟨r5, M4, c3, hF⟩ := hb_some hF
    refine jv_callV hC (st := []) [.int ((15 : Int32) + v2)] (k_Md_isWord c3) mm_Md_isWord mi_Md_isWord ml_X12_169 dX12_factHere_56 g2 rfl (Nat.le_of_ble_eq_true rfl) rfl rfl (Nat.le_of_ble_eq_true rfl) ?_
    refine jv_nf 59 [.int r5] rfl rfl ?_
    refine jv_if_eq hC 66 dX12_factHere_59 (by decide) (fun h6 => ?_) (fun h6 => ?_)
    · have hF := hi_pos h6 hF
      refine jv_sub [1, 2, 3] (ls' := [(0, .ref v0), (1, .int v1), (2, .int v2)]) rfl ?_
      exact jv_pc 66 rfl (s_Md_factHere_5 hC hk4 hF)
    · have hF := hi_neg h6 hF
      refine jv_iload_n hC 3 dX12_factHere_62 rfl ?_
      refine jv_goto hC 67 dX12_factHere_63 (by decide) ?_
      refine jv_sub [1, 3] (ls' := [(0, .ref v0), (2, .int v2)]) rfl ?_
      exact jv_pc 67 rfl (s_Md_factHere_6 hC hk4 hF)
set_option maxRecDepth 100000 in
set_option maxHeartbeats 4000000 in
theorem s_Md_factHere_3 {X : hm_X} {n : Nat} {S : hm_S} (hC : hm_C X RX12 cX12_factHere 4 (some .int) 2 n S) {k4 : Nat → Int32 → Int32 → hm_M → Option (Int32 × hm_M)} (hk4 : ∀ (v0 : Nat) (v1 : Int32) (v2 : Int32)  (M : hm_M) (r : Int32) (M' : hm_M), k4 v0 v1 v2 M = some (r, M') → hm_U X 4 [(0, .ref v0), (1, .int v1), (2, .int v2)] [] M (hm_Q X (some (.int r)) M')) {v0 : Nat} {v1 : Int32} {v2 : Int32} {M : hm_M} {r : Int32} {M' : hm_M} (hF : b_Md_factHere_3 S k4 v0 v1 v2 M = some (r, M')) : hm_U X 45 [(0, .ref v0), (1, .int v1), (2, .int v2)] [] M (hm_Q X (some (.int r)) M') := by
  unfold b_Md_factHere_3 at hF
  refine jv_iconst hC dX12_factHere_45 c32_0 ?_
  exact jv_pc 46 rfl (s_Md_factHere_4 hC hk4 hF)
set_option maxRecDepth 100000 in
set_option maxHeartbeats 4000000 in
theorem s_Md_factHere_2 {X : hm_X} {n : Nat} {S : hm_S} (hC : hm_C X RX12 cX12_factHere 4 (some .int) 2 n S) {k4 : Nat → Int32 → Int32 → hm_M → Option (Int32 × hm_M)} (hk4 : ∀ (v0 : Nat) (v1 : Int32) (v2 : Int32)  (M : hm_M) (r : Int32) (M' : hm_M), k4 v0 v1 v2 M = some (r, M') → hm_U X 4 [(0, .ref v0), (1, .int v1), (2, .int v2)] [] M (hm_Q X (some (.int r)) M')) {v0 : Nat} {v1 : Int32} {v2 : Int32} {M : hm_M} {r : Int32} {M' : hm_M} (hF : b_Md_factHere_2 S k4 v0 v1 v2 M = some (r, M')) : hm_U X 28 [(0, .ref v0), (1, .int v1), (2, .int v2)] [] M (hm_Q X (some (.int r)) M') := by
  unfold b_Md_factHere_2 at hF
  refine jv_iload_n hC 2 dX12_factHere_28 rfl ?_
  refine jv_iconst hC dX12_factHere_29 c32_4 ?_
  refine jv_icmp_lt hC 45 dX12_factHere_30 (by decide) (fun h1 => ?_) (fun h1 => ?_)
  · have hF := hi_pos h1 hF
    exact jv_pc 45 rfl (s_Md_factHere_3 hC hk4 hF)
  · have hF := hi_neg h1 hF
    refine jv_aload_n hC 0 dX12_factHere_33 rfl ?_
    obtain ⟨g2, hF⟩ := hg_some hF
    refine jv_getI hC fl_X12_231 dX12_factHere_34 rfl g2 ?_
    refine jv_iconst hC dX12_factHere_37 c32_3 ?_
    refine jv_icmp_ne hC 45 dX12_factHere_38 (by decide) (fun h3 => ?_) (fun h3 => ?_)
    · have hF := hi_neg h3 hF
      exact jv_pc 45 rfl (s_Md_factHere_3 hC hk4 hF)
    · have hF := hi_pos h3 hF
      refine jv_iconst hC dX12_factHere_41 c32_1 ?_
      refine jv_goto hC 46 dX12_factHere_42 (by decide) ?_
      exact jv_pc 46 rfl (s_Md_factHere_4 hC hk4 hF)
set_option maxRecDepth 100000 in
set_option maxHeartbeats 4000000 in
theorem t_Md_factHere_1 {X : hm_X} {n : Nat} {S : hm_S} (hC : hm_C X RX12 cX12_factHere 4 (some .int) 2 n S) {k4 : Nat → Int32 → Int32 → hm_M → Option (Int32 × hm_M)} (hk4 : ∀ (v0 : Nat) (v1 : Int32) (v2 : Int32)  (M : hm_M) (r : Int32) (M' : hm_M), k4 v0 v1 v2 M = some (r, M') → hm_U X 4 [(0, .ref v0), (1, .int v1), (2, .int v2)] [] M (hm_Q X (some (.int r)) M')) {v0 : Nat} {v1 : Int32} {v2 : Int32} {M : hm_M} {r : Int32} {M' : hm_M} (hF : b_Md_factHere_1 S k4 v0 v1 v2 M = some (r, M')) : hm_U X 4 [(0, .ref v0), (1, .int v1), (2, .int v2)] [] M (hm_Q X (some (.int r)) M') := by
  unfold b_Md_factHere_1 at hF
  refine jv_iload_n hC 2 dX12_factHere_4 rfl ?_
  refine jv_bipush hC dX12_factHere_5 c8_7 ?_
  refine jv_icmp_ge hC 74 dX12_factHere_7 (by decide) (fun h1 => ?_) (fun h1 => ?_)
  · have hF := hi_pos h1 hF
    refine jv_iload_n hC 1 dX12_factHere_74 rfl ?_
    obtain ⟨rfl, rfl⟩ := hr_some hF
    exact jv_iret hC dX12_factHere_75
  · have hF := hi_neg h1 hF
    refine jv_iload_n hC 2 dX12_factHere_10 rfl ?_
    refine jv_iconst hC dX12_factHere_11 c32_2 ?_
    refine jv_icmp_lt hC 41 dX12_factHere_12 (by decide) (fun h2 => ?_) (fun h2 => ?_)
    · have hF := hi_pos h2 hF
      refine jv_iconst hC dX12_factHere_41 c32_1 ?_
      refine jv_goto hC 46 dX12_factHere_42 (by decide) ?_
      exact jv_pc 46 rfl (s_Md_factHere_4 hC hk4 hF)
    · have hF := hi_neg h2 hF
      refine jv_iload_n hC 2 dX12_factHere_15 rfl ?_
      refine jv_iconst hC dX12_factHere_16 c32_4 ?_
      refine jv_icmp_ge hC 28 dX12_factHere_17 (by decide) (fun h3 => ?_) (fun h3 => ?_)
      · have hF := hi_pos h3 hF
        exact jv_pc 28 rfl (s_Md_factHere_2 hC hk4 hF)
      · have hF := hi_neg h3 hF
        refine jv_aload_n hC 0 dX12_factHere_20 rfl ?_
        obtain ⟨g4, hF⟩ := hg_some hF
        refine jv_getI hC fl_X12_231 dX12_factHere_21 rfl g4 ?_
        refine jv_iconst hC dX12_factHere_24 c32_2 ?_
        refine jv_icmp_lt hC 41 dX12_factHere_25 (by decide) (fun h5 => ?_) (fun h5 => ?_)
        · have hF := hi_pos h5 hF
          refine jv_iconst hC dX12_factHere_41 c32_1 ?_
          refine jv_goto hC 46 dX12_factHere_42 (by decide) ?_
          exact jv_pc 46 rfl (s_Md_factHere_4 hC hk4 hF)
        · have hF := hi_neg h5 hF
          exact jv_pc 28 rfl (s_Md_factHere_2 hC hk4 hF)
theorem s_Md_factHere_1 {X : hm_X} {n : Nat} {S : hm_S} (hC : hm_C X RX12 cX12_factHere 4 (some .int) 2 n S) : ∀ (q : Nat) (v0 : Nat) (v1 : Int32) (v2 : Int32) (M : hm_M) (r : Int32) (M' : hm_M), f_Md_factHere_1 S  q v0 v1 v2 M = some (r, M') → hm_U X 4 [(0, .ref v0), (1, .int v1), (2, .int v2)] [] M (hm_Q X (some (.int r)) M') := by
  intro q
  induction q with
  | zero => intro v0 v1 v2 M r M' hF; cases hF
  | succ q ih => intro v0 v1 v2 M r M' hF; exact t_Md_factHere_1 hC ih hF
set_option maxRecDepth 100000 in
set_option maxHeartbeats 4000000 in
theorem k_Md_factHere {n : Nat} {S : hm_S} {v0 : Nat} {M : hm_M} {r : Int32} {M' : hm_M} (hF : f_Md_factHere S v0 M = some (r, M')) : hm_KM yX12_factHere cX12_factHere 4 (some .int) 2 n S [.ref v0] M (some (.int r)) M' := by
  refine hm_enter mm_Md_factHere (Nat.le_of_ble_eq_true rfl) (fun X hC => ?_)
  show hm_U X 0 [(0, .ref v0)] [] M _
  unfold f_Md_factHere at hF
  refine jv_iconst hC dX12_factHere_0 c32_m1 ?_
  refine jv_istore_n hC [(1, .int (-1 : Int32)), (0, .ref v0)] dX12_factHere_1 (by decide) rfl ?_
  refine jv_iconst hC dX12_factHere_2 c32_0 ?_
  refine jv_istore_n hC [(2, .int (0 : Int32)), (1, .int (-1 : Int32)), (0, .ref v0)] dX12_factHere_3 (by decide) rfl ?_
  refine jv_sub [2, 1, 0] (ls' := [(0, .ref v0), (1, .int (-1 : Int32)), (2, .int (0 : Int32))]) rfl ?_
  exact jv_pc 4 rfl (s_Md_factHere_1 hC hN _ _ _ _ _ _ hF)
set_option maxRecDepth 100000 in
set_option maxHeartbeats 4000000 in
theorem k_Md_takeSign {n : Nat} {S : hm_S} {v0 : Nat} {v1 : Int32} {M : hm_M} {M' : hm_M} (hF : f_Md_takeSign S v0 v1 M = some M') : hm_KM yX12_takeSign cX12_takeSign 2 none 2 n S [.ref v0, .int v1] M none M' := by
  refine hm_enter mm_Md_takeSign (Nat.le_of_ble_eq_true rfl) (fun X hC => ?_)
  show hm_U X 0 [(0, .ref v0), (1, .int v1)] [] M _
  unfold f_Md_takeSign at hF
  refine jv_aload_n hC 0 dX12_takeSign_0 rfl ?_
  refine jv_iload_n hC 1 dX12_takeSign_1 rfl ?_
  obtain ⟨g1, hF⟩ := hg_some hF
  obtain ⟨r4, M3, c2, hF⟩ := hb_some hF
  refine jv_callV hC (st := []) [.int v1] (k_Md_isSign c2) mm_Md_isSign mi_Md_isSign ml_X12_162 dX12_takeSign_2 g1 rfl (Nat.le_of_ble_eq_true rfl) rfl rfl (Nat.le_of_ble_eq_true rfl) ?_
  refine jv_nf 5 [.int r4] rfl rfl ?_
  refine jv_if_eq hC 21 dX12_takeSign_5 (by decide) (fun h5 => ?_) (fun h5 => ?_)
  · have hF := hi_pos h5 hF
    refine jv_aload_n hC 0 dX12_takeSign_21 rfl ?_
    refine jv_iconst hC dX12_takeSign_22 c32_1 ?_
    obtain ⟨M7, c6, hF⟩ := hv_some hF
    refine jv_callV hC (st := []) [.int (1 : Int32)] (k_Md_wrong c6) mm_Md_wrong mi_Md_wrong ml_X12_165 dX12_takeSign_23 g1 rfl (Nat.le_of_ble_eq_true rfl) rfl rfl (Nat.le_of_ble_eq_true rfl) ?_
    refine jv_nf 26 [] rfl rfl ?_
    obtain rfl := hr_somev hF
    exact jv_vret hC dX12_takeSign_26
  · have hF := hi_neg h5 hF
    refine jv_aload_n hC 0 dX12_takeSign_8 rfl ?_
    refine jv_dup hC dX12_takeSign_9 rfl ?_
    refine jv_getI hC fl_X12_156 dX12_takeSign_10 rfl g1 ?_
    refine jv_iconst hC dX12_takeSign_13 c32_1 ?_
    refine jv_iadd hC dX12_takeSign_14 ?_
    refine jv_putI hC fl_X12_156 dX12_takeSign_15 rfl rfl rfl g1 ?_
    obtain ⟨M8, e9, hF⟩ := hl_some hF
    refine jv_mem e9 ?_
    refine jv_goto hC 26 dX12_takeSign_18 (by decide) ?_
    obtain rfl := hr_somev hF
    exact jv_vret hC dX12_takeSign_26
set_option maxRecDepth 100000 in
set_option maxHeartbeats 4000000 in
theorem s_Md_takePart_5 {X : hm_X} {n : Nat} {S : hm_S} {rP : Nat → Int32 → hm_M → Option hm_M} {dP : Nat} (h50 : 50 ≤ dP) (hrP : ∀ (a0 : Nat) (a1 : Int32) (M : hm_M) (M' : hm_M), rP a0 a1 M = some M' → hm_KM yX12_takePart cX12_takePart 4 none dP n S [.ref a0, .int a1] M none M') (hC : hm_C X RX12 cX12_takePart 4 none (dP + 5) n S) {v0 : Nat} {s0 : Int32} {s1 : Int32} {s2 : Nat} {M : hm_M} {M' : hm_M} (hF : b_Md_takePart_5 S rP v0 s0 s1 s2 M = some M') : hm_U X 162 [(0, .ref v0)] [.int s0, .int s1, .ref s2] M (hm_Q X none M') := by
  unfold b_Md_takePart_5 at hF
  obtain ⟨g1, hF⟩ := hg_some hF
  obtain ⟨M3, c2, hF⟩ := hv_some hF
  refine jv_callV hC (st := []) [.int s1, .int s0] (k_Md_emit c2) mm_Md_emit mi_Md_emit ml_X12_237 dX12_takePart_162 g1 rfl (by omega) rfl rfl (Nat.le_of_ble_eq_true rfl) ?_
  refine jv_nf 165 [] rfl rfl ?_
  refine jv_aload_n hC 0 dX12_takePart_165 rfl ?_
  refine jv_dup hC dX12_takePart_166 rfl ?_
  obtain ⟨g4, hF⟩ := hg_some hF
  refine jv_getI hC fl_X12_156 dX12_takePart_167 rfl g4 ?_
  refine jv_iconst hC dX12_takePart_170 c32_1 ?_
  refine jv_iadd hC dX12_takePart_171 ?_
  refine jv_putI hC fl_X12_156 dX12_takePart_172 rfl rfl rfl g4 ?_
  obtain ⟨M5, e6, hF⟩ := hl_some hF
  refine jv_mem e6 ?_
  obtain rfl := hr_somev hF
  exact jv_vret hC dX12_takePart_175
set_option maxRecDepth 100000 in
set_option maxHeartbeats 4000000 in
theorem s_Md_takePart_4 {X : hm_X} {n : Nat} {S : hm_S} {rP : Nat → Int32 → hm_M → Option hm_M} {dP : Nat} (h50 : 50 ≤ dP) (hrP : ∀ (a0 : Nat) (a1 : Int32) (M : hm_M) (M' : hm_M), rP a0 a1 M = some M' → hm_KM yX12_takePart cX12_takePart 4 none dP n S [.ref a0, .int a1] M none M') (hC : hm_C X RX12 cX12_takePart 4 none (dP + 5) n S) {v0 : Nat} {v2 : Int32} {v3 : Int32} {s0 : Int32} {s1 : Nat} {M : hm_M} {M' : hm_M} (hF : b_Md_takePart_4 S rP v0 v2 v3 s0 s1 M = some M') : hm_U X 144 [(0, .ref v0), (2, .int v2), (3, .int v3)] [.int s0, .ref s1] M (hm_Q X none M') := by
  unfold b_Md_takePart_4 at hF
  refine jv_iload_n hC 1 dX12_takePart_144 rfl ?_
  refine jv_if_eq hC 161 dX12_takePart_145 (by decide) (fun h1 => ?_) (fun h1 => ?_)
  · have hF := hi_pos h1 hF
    refine jv_iload_n hC 2 dX12_takePart_161 rfl ?_
    refine jv_sub [0] (ls' := [(0, .ref v0)]) rfl ?_
    exact jv_pc 162 rfl (s_Md_takePart_5 h50 hrP hC hF)
  · have hF := hi_neg h1 hF
    refine jv_aload_n hC 0 dX12_takePart_148 rfl ?_
    obtain ⟨g2, hF⟩ := hg_some hF
    obtain ⟨g3, hF⟩ := hg_some hF
    refine jv_getR hC fl_X12_30 dX12_takePart_149 rfl g2 g3 ?_
    refine jv_aload_n hC 0 dX12_takePart_152 rfl ?_
    refine jv_getI hC fl_X12_156 dX12_takePart_153 rfl g2 ?_
    obtain ⟨g4, hF⟩ := hg_some hF
    obtain ⟨n5, sn5, in5⟩ := hm_ib_ok g4
    refine jv_laload hC dX12_takePart_156 sn5 in5 ?_
    refine jv_l2i hC dX12_takePart_157 ?_
    refine jv_goto hC 162 dX12_takePart_158 (by decide) ?_
    refine jv_sub [0] (ls' := [(0, .ref v0)]) rfl ?_
    exact jv_pc 162 rfl (s_Md_takePart_5 h50 hrP hC hF)
set_option maxRecDepth 100000 in
set_option maxHeartbeats 4000000 in
theorem s_Md_takePart_3 {X : hm_X} {n : Nat} {S : hm_S} {rP : Nat → Int32 → hm_M → Option hm_M} {dP : Nat} (h50 : 50 ≤ dP) (hrP : ∀ (a0 : Nat) (a1 : Int32) (M : hm_M) (M' : hm_M), rP a0 a1 M = some M' → hm_KM yX12_takePart cX12_takePart 4 none dP n S [.ref a0, .int a1] M none M') (hC : hm_C X RX12 cX12_takePart 4 none (dP + 5) n S) {v0 : Nat} {v1 : Int32} {v2 : Int32} {v3 : Int32} {M : hm_M} {M' : hm_M} (hF : b_Md_takePart_3 S rP v0 v1 v2 v3 M = some M') : hm_U X 76 [(0, .ref v0), (1, .int v1), (2, .int v2), (3, .int v3)] [] M (hm_Q X none M') := by
  unfold b_Md_takePart_3 at hF
  refine jv_aload_n hC 0 dX12_takePart_76 rfl ?_
  obtain ⟨g1, hF⟩ := hg_some hF
  refine jv_getI hC fl_X12_159 dX12_takePart_77 rfl g1 ?_
  refine jv_if_le hC 84 dX12_takePart_80 (by decide) (fun h2 => ?_) (fun h2 => ?_)
  · have hF := hi_pos h2 hF
    refine jv_aload_n hC 0 dX12_takePart_84 rfl ?_
    refine jv_bipush hC dX12_takePart_85 c8_12 ?_
    obtain ⟨r5, M4, c3, hF⟩ := hb_some hF
    refine jv_callV hC (st := []) [.int (12 : Int32)] (k_Md_hasWord c3) mm_Md_hasWord mi_Md_hasWord ml_X12_172 dX12_takePart_87 g1 rfl (by omega) rfl rfl (Nat.le_of_ble_eq_true rfl) ?_
    refine jv_nf 90 [.int r5] rfl rfl ?_
    refine jv_if_eq hC 109 dX12_takePart_90 (by decide) (fun h6 => ?_) (fun h6 => ?_)
    · have hF := hi_pos h6 hF
      refine jv_aload_n hC 0 dX12_takePart_109 rfl ?_
      refine jv_bipush hC dX12_takePart_110 c8_40 ?_
      obtain ⟨r9, M8, c7, hF⟩ := hb_some hF
      refine jv_callV hC (st := []) [.int (40 : Int32)] (k_Md_hasSign c7) mm_Md_hasSign mi_Md_hasSign ml_X12_247 dX12_takePart_112 g1 rfl (by omega) rfl rfl (Nat.le_of_ble_eq_true rfl) ?_
      refine jv_nf 115 [.int r9] rfl rfl ?_
      refine jv_if_eq hC 134 dX12_takePart_115 (by decide) (fun h10 => ?_) (fun h10 => ?_)
      · have hF := hi_pos h10 hF
        refine jv_aload_n hC 0 dX12_takePart_134 rfl ?_
        refine jv_iload_n hC 2 dX12_takePart_135 rfl ?_
        refine jv_if_eq hC 143 dX12_takePart_136 (by decide) (fun h11 => ?_) (fun h11 => ?_)
        · have hF := hi_pos h11 hF
          refine jv_iconst hC dX12_takePart_143 c32_2 ?_
          refine jv_sub [0, 2, 3] (ls' := [(0, .ref v0), (2, .int v2), (3, .int v3)]) rfl ?_
          exact jv_pc 144 rfl (s_Md_takePart_4 h50 hrP hC hF)
        · have hF := hi_neg h11 hF
          refine jv_iconst hC dX12_takePart_139 c32_1 ?_
          refine jv_goto hC 144 dX12_takePart_140 (by decide) ?_
          refine jv_sub [0, 2, 3] (ls' := [(0, .ref v0), (2, .int v2), (3, .int v3)]) rfl ?_
          exact jv_pc 144 rfl (s_Md_takePart_4 h50 hrP hC hF)
      · have hF := hi_neg h10 hF
        refine jv_aload_n hC 0 dX12_takePart_118 rfl ?_
        refine jv_iload_n hC 1 dX12_takePart_119 rfl ?_
        refine jv_iconst hC dX12_takePart_120 c32_1 ?_
        refine jv_iadd hC dX12_takePart_121 ?_
        obtain ⟨M13, c12, hF⟩ := hv_some hF
        refine jv_callV hC (st := []) [.int (v1 + (1 : Int32))] (k_Md_all h50 hrP c12) mm_Md_all mi_Md_all ml_X12_234 dX12_takePart_122 g1 rfl (by omega) rfl rfl (Nat.le_of_ble_eq_true rfl) ?_
        refine jv_nf 125 [] rfl rfl ?_
        refine jv_aload_n hC 0 dX12_takePart_125 rfl ?_
        refine jv_bipush hC dX12_takePart_126 c8_41 ?_
        obtain ⟨M15, c14, hF⟩ := hv_some hF
        refine jv_callV hC (st := []) [.int (41 : Int32)] (k_Md_takeSign c14) mm_Md_takeSign mi_Md_takeSign ml_X12_198 dX12_takePart_128 g1 rfl (by omega) rfl rfl (Nat.le_of_ble_eq_true rfl) ?_
        refine jv_nf 131 [] rfl rfl ?_
        refine jv_goto hC 175 dX12_takePart_131 (by decide) ?_
        obtain rfl := hr_somev hF
        exact jv_vret hC dX12_takePart_175
    · have hF := hi_neg h6 hF
      refine jv_aload_n hC 0 dX12_takePart_93 rfl ?_
      refine jv_iload_n hC 1 dX12_takePart_94 rfl ?_
      refine jv_iconst hC dX12_takePart_95 c32_1 ?_
      refine jv_iadd hC dX12_takePart_96 ?_
      obtain ⟨M17, c16, hF⟩ := hv_some hF
      refine jv_callV hC (st := []) [.int (v1 + (1 : Int32))] (hrP _ _ _ _ c16) mm_Md_takePart mi_Md_takePart ml_X12_253 dX12_takePart_97 g1 rfl (by omega) rfl rfl (Nat.le_of_ble_eq_true rfl) ?_
      refine jv_nf 100 [] rfl rfl ?_
      refine jv_aload_n hC 0 dX12_takePart_100 rfl ?_
      refine jv_iconst hC dX12_takePart_101 c32_3 ?_
      refine jv_iconst hC dX12_takePart_102 c32_0 ?_
      obtain ⟨M19, c18, hF⟩ := hv_some hF
      refine jv_callV hC (st := []) [.int (3 : Int32), .int (0 : Int32)] (k_Md_emit c18) mm_Md_emit mi_Md_emit ml_X12_237 dX12_takePart_103 g1 rfl (by omega) rfl rfl (Nat.le_of_ble_eq_true rfl) ?_
      refine jv_nf 106 [] rfl rfl ?_
      refine jv_goto hC 175 dX12_takePart_106 (by decide) ?_
      obtain rfl := hr_somev hF
      exact jv_vret hC dX12_takePart_175
  · have hF := hi_neg h2 hF
    obtain rfl := hr_somev hF
    exact jv_vret hC dX12_takePart_83
set_option maxRecDepth 100000 in
set_option maxHeartbeats 4000000 in
theorem s_Md_takePart_2 {X : hm_X} {n : Nat} {S : hm_S} {rP : Nat → Int32 → hm_M → Option hm_M} {dP : Nat} (h50 : 50 ≤ dP) (hrP : ∀ (a0 : Nat) (a1 : Int32) (M : hm_M) (M' : hm_M), rP a0 a1 M = some M' → hm_KM yX12_takePart cX12_takePart 4 none dP n S [.ref a0, .int a1] M none M') (hC : hm_C X RX12 cX12_takePart 4 none (dP + 5) n S) {v0 : Nat} {v1 : Int32} {v2 : Int32} {v3 : Int32} {M : hm_M} {M' : hm_M} (hF : b_Md_takePart_2 S rP v0 v1 v2 v3 M = some M') : hm_U X 66 [(0, .ref v0), (1, .int v1), (2, .int v2), (3, .int v3)] [] M (hm_Q X none M') := by
  unfold b_Md_takePart_2 at hF
  refine jv_iload_n hC 1 dX12_takePart_66 rfl ?_
  refine jv_iconst hC dX12_takePart_67 c32_5 ?_
  refine jv_icmp_ne hC 76 dX12_takePart_68 (by decide) (fun h1 => ?_) (fun h1 => ?_)
  · have hF := hi_neg h1 hF
    exact jv_pc 76 rfl (s_Md_takePart_3 h50 hrP hC hF)
  · have hF := hi_pos h1 hF
    refine jv_aload_n hC 0 dX12_takePart_71 rfl ?_
    refine jv_iconst hC dX12_takePart_72 c32_5 ?_
    obtain ⟨g2, hF⟩ := hg_some hF
    obtain ⟨M4, c3, hF⟩ := hv_some hF
    refine jv_callV hC (st := []) [.int (5 : Int32)] (k_Md_wrong c3) mm_Md_wrong mi_Md_wrong ml_X12_165 dX12_takePart_73 g2 rfl (by omega) rfl rfl (Nat.le_of_ble_eq_true rfl) ?_
    refine jv_nf 76 [] rfl rfl ?_
    exact jv_pc 76 rfl (s_Md_takePart_3 h50 hrP hC hF)
set_option maxRecDepth 100000 in
set_option maxHeartbeats 4000000 in
theorem s_Md_takePart_1 {X : hm_X} {n : Nat} {S : hm_S} {rP : Nat → Int32 → hm_M → Option hm_M} {dP : Nat} (h50 : 50 ≤ dP) (hrP : ∀ (a0 : Nat) (a1 : Int32) (M : hm_M) (M' : hm_M), rP a0 a1 M = some M' → hm_KM yX12_takePart cX12_takePart 4 none dP n S [.ref a0, .int a1] M none M') (hC : hm_C X RX12 cX12_takePart 4 none (dP + 5) n S) {v0 : Nat} {v1 : Int32} {s0 : Int32} {M : hm_M} {M' : hm_M} (hF : b_Md_takePart_1 S rP v0 v1 s0 M = some M') : hm_U X 26 [(0, .ref v0), (1, .int v1)] [.int s0] M (hm_Q X none M') := by
  unfold b_Md_takePart_1 at hF
  refine jv_istore_n hC [(2, .int s0), (0, .ref v0), (1, .int v1)] dX12_takePart_26 (by decide) rfl ?_
  refine jv_aload_n hC 1 dX12_takePart_27 rfl ?_
  obtain ⟨g1, hF⟩ := hg_some hF
  obtain ⟨r4, M3, c2, hF⟩ := hb_some hF
  refine jv_callV hC (st := []) [] (k_Md_factHere c2) mm_Md_factHere mi_Md_factHere ml_X12_256 dX12_takePart_28 g1 rfl (by omega) rfl rfl (Nat.le_of_ble_eq_true rfl) ?_
  refine jv_nf 31 [.int r4] rfl rfl ?_
  refine jv_istore_n hC [(3, .int r4), (2, .int s0), (0, .ref v0), (1, .int v1)] dX12_takePart_31 (by decide) rfl ?_
  refine jv_iload_n hC 0 dX12_takePart_32 rfl ?_
  refine jv_if_ge hC 66 dX12_takePart_33 (by decide) (fun h5 => ?_) (fun h5 => ?_)
  · have hF := hi_pos h5 hF
    refine jv_sub [2, 3, 1, 0] (ls' := [(0, .ref v0), (1, .int v1), (2, .int s0), (3, .int r4)]) rfl ?_
    exact jv_pc 66 rfl (s_Md_takePart_2 h50 hrP hC hF)
  · have hF := hi_neg h5 hF
    refine jv_iload_n hC 1 dX12_takePart_36 rfl ?_
    refine jv_if_ne hC 66 dX12_takePart_37 (by decide) (fun h6 => ?_) (fun h6 => ?_)
    · have hF := hi_neg h6 hF
      refine jv_sub [2, 3, 1, 0] (ls' := [(0, .ref v0), (1, .int v1), (2, .int s0), (3, .int r4)]) rfl ?_
      exact jv_pc 66 rfl (s_Md_takePart_2 h50 hrP hC hF)
    · have hF := hi_pos h6 hF
      refine jv_aload_n hC 2 dX12_takePart_40 rfl ?_
      refine jv_bipush hC dX12_takePart_41 c8_40 ?_
      obtain ⟨r9, M8, c7, hF⟩ := hb_some hF
      refine jv_callV hC (st := []) [.int (40 : Int32)] (k_Md_isSign c7) mm_Md_isSign mi_Md_isSign ml_X12_162 dX12_takePart_43 g1 rfl (by omega) rfl rfl (Nat.le_of_ble_eq_true rfl) ?_
      refine jv_nf 46 [.int r9] rfl rfl ?_
      refine jv_if_ne hC 66 dX12_takePart_46 (by decide) (fun h10 => ?_) (fun h10 => ?_)
      · have hF := hi_neg h10 hF
        refine jv_sub [2, 3, 1, 0] (ls' := [(0, .ref v0), (1, .int v1), (2, .int s0), (3, .int r4)]) rfl ?_
        exact jv_pc 66 rfl (s_Md_takePart_2 h50 hrP hC hF)
      · have hF := hi_pos h10 hF
        refine jv_aload_n hC 2 dX12_takePart_49 rfl ?_
        refine jv_bipush hC dX12_takePart_50 c8_12 ?_
        obtain ⟨r13, M12, c11, hF⟩ := hb_some hF
        refine jv_callV hC (st := []) [.int (12 : Int32)] (k_Md_isWord c11) mm_Md_isWord mi_Md_isWord ml_X12_169 dX12_takePart_52 g1 rfl (by omega) rfl rfl (Nat.le_of_ble_eq_true rfl) ?_
        refine jv_nf 55 [.int r13] rfl rfl ?_
        refine jv_if_ne hC 66 dX12_takePart_55 (by decide) (fun h14 => ?_) (fun h14 => ?_)
        · have hF := hi_neg h14 hF
          refine jv_sub [2, 3, 1, 0] (ls' := [(0, .ref v0), (1, .int v1), (2, .int s0), (3, .int r4)]) rfl ?_
          exact jv_pc 66 rfl (s_Md_takePart_2 h50 hrP hC hF)
        · have hF := hi_pos h14 hF
          refine jv_aload_n hC 2 dX12_takePart_58 rfl ?_
          refine jv_iconst hC dX12_takePart_59 c32_1 ?_
          obtain ⟨M16, c15, hF⟩ := hv_some hF
          refine jv_callV hC (st := []) [.int (1 : Int32)] (k_Md_wrong c15) mm_Md_wrong mi_Md_wrong ml_X12_165 dX12_takePart_60 g1 rfl (by omega) rfl rfl (Nat.le_of_ble_eq_true rfl) ?_
          refine jv_nf 63 [] rfl rfl ?_
          refine jv_goto hC 76 dX12_takePart_63 (by decide) ?_
          refine jv_sub [2, 3, 1, 0] (ls' := [(0, .ref v0), (1, .int v1), (2, .int s0), (3, .int r4)]) rfl ?_
          exact jv_pc 76 rfl (s_Md_takePart_3 h50 hrP hC hF)
