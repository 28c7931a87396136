/-! by program: the machine runs them -/
set_option maxRecDepth 100000 in
set_option maxHeartbeats 4000000 in
theorem k_Reader_takeOnce {n : Nat} {S : hm_S} {v0 : Nat} {M : hm_M} {r : Int32} {M' : hm_M} (hF : f_Reader_takeOnce S v0 M = some (r, M')) : hm_KM yX5_takeOnce cX5_takeOnce 2 (some .int) 9 n S [.ref v0] M (some (.int r)) M' := by
  refine hm_enter mm_Reader_takeOnce (Nat.le_of_ble_eq_true rfl) (fun X hC => ?_)
  show hm_U X 0 [(0, .ref v0)] [] M _
  unfold f_Reader_takeOnce at hF
  refine jv_iconst hC dX5_takeOnce_0 c32_1 ?_
  refine jv_aload_n hC 0 dX5_takeOnce_1 rfl ?_
  obtain ⟨g1, hF⟩ := hg_some hF
  obtain ⟨g2, hF⟩ := hg_some hF
  refine jv_getR hC fl_X5_12 dX5_takeOnce_2 rfl g1 g2 ?_
  obtain ⟨g3, hF⟩ := hg_some hF
  refine jv_getI hC fl_X5_41 dX5_takeOnce_5 rfl g3 ?_
  refine jv_sipush hC dX5_takeOnce_8 c16_128 ?_
  refine jv_isub hC dX5_takeOnce_11 ?_
  refine jv_ishl hC dX5_takeOnce_12 ?_
  refine jv_pc 13 rfl ?_
  obtain ⟨x4, e5, hF⟩ := hl_some hF
  refine jv_topI e5 ?_
  refine jv_istore_n hC [(1, .int x4), (0, .ref v0)] dX5_takeOnce_13 (by decide) rfl ?_
  refine jv_aload_n hC 1 dX5_takeOnce_14 rfl ?_
  refine jv_getI hC fl_X5_25 dX5_takeOnce_15 rfl g1 ?_
  refine jv_iload_n hC 0 dX5_takeOnce_18 rfl ?_
  refine jv_iand hC dX5_takeOnce_19 ?_
  refine jv_if_eq hC 25 dX5_takeOnce_20 (by decide) (fun h6 => ?_) (fun h6 => ?_)
  · have hF := hi_pos h6 hF
    refine jv_aload_n hC 1 dX5_takeOnce_25 rfl ?_
    refine jv_dup hC dX5_takeOnce_26 rfl ?_
    refine jv_getI hC fl_X5_25 dX5_takeOnce_27 rfl g1 ?_
    refine jv_iload_n hC 0 dX5_takeOnce_30 rfl ?_
    refine jv_ior hC dX5_takeOnce_31 ?_
    refine jv_putI hC fl_X5_25 dX5_takeOnce_32 rfl rfl rfl g1 ?_
    obtain ⟨M7, e8, hF⟩ := hl_some hF
    refine jv_mem e8 ?_
    refine jv_aload_n hC 1 dX5_takeOnce_35 rfl ?_
    refine jv_pc 36 rfl ?_
    obtain ⟨g9, hF⟩ := hg_some hF
    refine jv_getR hC fl_X5_12 dX5_takeOnce_36 rfl g1 g9 ?_
    obtain ⟨g10, hF⟩ := hg_some hF
    obtain ⟨M12, c11, hF⟩ := hv_some hF
    refine jv_callV hC (st := []) [] (k_Tape_next c11) mm_Tape_next mi_Tape_next ml_X5_89 dX5_takeOnce_39 g10 rfl (Nat.le_of_ble_eq_true rfl) rfl rfl (Nat.le_of_ble_eq_true rfl) ?_
    refine jv_nf 42 [] rfl rfl ?_
    refine jv_iconst hC dX5_takeOnce_42 c32_0 ?_
    obtain ⟨rfl, rfl⟩ := hr_some hF
    exact jv_iret hC dX5_takeOnce_43
  · have hF := hi_neg h6 hF
    refine jv_iconst hC dX5_takeOnce_23 c32_3 ?_
    obtain ⟨rfl, rfl⟩ := hr_some hF
    exact jv_iret hC dX5_takeOnce_24
set_option maxRecDepth 100000 in
set_option maxHeartbeats 4000000 in
theorem k_Reader_takeNumber {n : Nat} {S : hm_S} {v0 : Nat} {v1 : Int32} {v2 : Int32} {M : hm_M} {r : Int32} {M' : hm_M} (hF : f_Reader_takeNumber S v0 v1 v2 M = some (r, M')) : hm_KM yX5_takeNumber cX5_takeNumber 3 (some .int) 9 n S [.ref v0, .int v1, .int v2] M (some (.int r)) M' := by
  refine hm_enter mm_Reader_takeNumber (Nat.le_of_ble_eq_true rfl) (fun X hC => ?_)
  show hm_U X 0 [(0, .ref v0), (1, .int v1), (2, .int v2)] [] M _
  unfold f_Reader_takeNumber at hF
  refine jv_aload_n hC 0 dX5_takeNumber_0 rfl ?_
  obtain ⟨g1, hF⟩ := hg_some hF
  obtain ⟨g2, hF⟩ := hg_some hF
  refine jv_getR hC fl_X5_12 dX5_takeNumber_1 rfl g1 g2 ?_
  obtain ⟨g3, hF⟩ := hg_some hF
  refine jv_getI hC fl_X5_41 dX5_takeNumber_4 rfl g3 ?_
  refine jv_iconst hC dX5_takeNumber_7 c32_2 ?_
  refine jv_icmp_eq hC 13 dX5_takeNumber_8 (by decide) (fun h4 => ?_) (fun h4 => ?_)
  · have hF := hi_pos h4 hF
    refine jv_aload_n hC 0 dX5_takeNumber_13 rfl ?_
    refine jv_getR hC fl_X5_12 dX5_takeNumber_14 rfl g1 g2 ?_
    refine jv_getI hC fl_X5_137 dX5_takeNumber_17 rfl g3 ?_
    refine jv_iload_n hC 1 dX5_takeNumber_20 rfl ?_
    refine jv_icmp_lt hC 35 dX5_takeNumber_21 (by decide) (fun h5 => ?_) (fun h5 => ?_)
    · have hF := hi_pos h5 hF
      refine jv_iconst hC dX5_takeNumber_35 c32_4 ?_
      obtain ⟨rfl, rfl⟩ := hr_some hF
      exact jv_iret hC dX5_takeNumber_36
    · have hF := hi_neg h5 hF
      refine jv_aload_n hC 0 dX5_takeNumber_24 rfl ?_
      refine jv_getR hC fl_X5_12 dX5_takeNumber_25 rfl g1 g2 ?_
      refine jv_getI hC fl_X5_137 dX5_takeNumber_28 rfl g3 ?_
      refine jv_iload_n hC 2 dX5_takeNumber_31 rfl ?_
      refine jv_icmp_le hC 37 dX5_takeNumber_32 (by decide) (fun h6 => ?_) (fun h6 => ?_)
      · have hF := hi_pos h6 hF
        refine jv_aload_n hC 0 dX5_takeNumber_37 rfl ?_
        refine jv_aload_n hC 0 dX5_takeNumber_38 rfl ?_
        refine jv_getR hC fl_X5_12 dX5_takeNumber_39 rfl g1 g2 ?_
        refine jv_getI hC fl_X5_137 dX5_takeNumber_42 rfl g3 ?_
        refine jv_putI hC fl_X5_29 dX5_takeNumber_45 rfl rfl rfl g1 ?_
        obtain ⟨M7, e8, hF⟩ := hl_some hF
        refine jv_mem e8 ?_
        refine jv_aload_n hC 0 dX5_takeNumber_48 rfl ?_
        obtain ⟨g9, hF⟩ := hg_some hF
        refine jv_getR hC fl_X5_12 dX5_takeNumber_49 rfl g1 g9 ?_
        refine jv_pc 52 rfl ?_
        obtain ⟨g10, hF⟩ := hg_some hF
        obtain ⟨M12, c11, hF⟩ := hv_some hF
        refine jv_callV hC (st := []) [] (k_Tape_next c11) mm_Tape_next mi_Tape_next ml_X5_89 dX5_takeNumber_52 g10 rfl (Nat.le_of_ble_eq_true rfl) rfl rfl (Nat.le_of_ble_eq_true rfl) ?_
        refine jv_nf 55 [] rfl rfl ?_
        refine jv_iconst hC dX5_takeNumber_55 c32_0 ?_
        obtain ⟨rfl, rfl⟩ := hr_some hF
        exact jv_iret hC dX5_takeNumber_56
      · have hF := hi_neg h6 hF
        refine jv_iconst hC dX5_takeNumber_35 c32_4 ?_
        obtain ⟨rfl, rfl⟩ := hr_some hF
        exact jv_iret hC dX5_takeNumber_36
  · have hF := hi_neg h4 hF
    refine jv_iconst hC dX5_takeNumber_11 c32_1 ?_
    obtain ⟨rfl, rfl⟩ := hr_some hF
    exact jv_iret hC dX5_takeNumber_12
set_option maxRecDepth 100000 in
set_option maxHeartbeats 4000000 in
theorem k_Reader_take {n : Nat} {S : hm_S} {v0 : Nat} {v1 : Int32} {M : hm_M} {r : Int32} {M' : hm_M} (hF : f_Reader_take S v0 v1 M = some (r, M')) : hm_KM yX5_take cX5_take 2 (some .int) 9 n S [.ref v0, .int v1] M (some (.int r)) M' := by
  refine hm_enter mm_Reader_take (Nat.le_of_ble_eq_true rfl) (fun X hC => ?_)
  show hm_U X 0 [(0, .ref v0), (1, .int v1)] [] M _
  unfold f_Reader_take at hF
  refine jv_aload_n hC 0 dX5_take_0 rfl ?_
  obtain ⟨g1, hF⟩ := hg_some hF
  obtain ⟨g2, hF⟩ := hg_some hF
  refine jv_getR hC fl_X5_12 dX5_take_1 rfl g1 g2 ?_
  obtain ⟨g3, hF⟩ := hg_some hF
  refine jv_getI hC fl_X5_41 dX5_take_4 rfl g3 ?_
  refine jv_iload_n hC 1 dX5_take_7 rfl ?_
  refine jv_icmp_eq hC 13 dX5_take_8 (by decide) (fun h4 => ?_) (fun h4 => ?_)
  · have hF := hi_pos h4 hF
    refine jv_aload_n hC 0 dX5_take_13 rfl ?_
    refine jv_getR hC fl_X5_12 dX5_take_14 rfl g1 g2 ?_
    obtain ⟨M6, c5, hF⟩ := hv_some hF
    refine jv_callV hC (st := []) [] (k_Tape_next c5) mm_Tape_next mi_Tape_next ml_X5_89 dX5_take_17 g3 rfl (Nat.le_of_ble_eq_true rfl) rfl rfl (Nat.le_of_ble_eq_true rfl) ?_
    refine jv_nf 20 [] rfl rfl ?_
    refine jv_iconst hC dX5_take_20 c32_0 ?_
    obtain ⟨rfl, rfl⟩ := hr_some hF
    exact jv_iret hC dX5_take_21
  · have hF := hi_neg h4 hF
    refine jv_iconst hC dX5_take_11 c32_1 ?_
    obtain ⟨rfl, rfl⟩ := hr_some hF
    exact jv_iret hC dX5_take_12
set_option maxRecDepth 100000 in
set_option maxHeartbeats 4000000 in
theorem s_Reader_readFloor_2 {X : hm_X} {n : Nat} {S : hm_S} (hC : hm_C X RX5 cX5_readFloor 2 (some .int) 10 n S) {v0 : Nat} {v1 : Int32} {M : hm_M} {r : Int32} {M' : hm_M} (hF : b_Reader_readFloor_2 S v0 v1 M = some (r, M')) : hm_U X 40 [(0, .ref v0), (1, .int v1)] [] M (hm_Q X (some (.int r)) M') := by
  unfold b_Reader_readFloor_2 at hF
  refine jv_iload_n hC 1 dX5_readFloor_40 rfl ?_
  refine jv_if_ne hC 62 dX5_readFloor_41 (by decide) (fun h1 => ?_) (fun h1 => ?_)
  · have hF := hi_neg h1 hF
    refine jv_iload_n hC 1 dX5_readFloor_62 rfl ?_
    obtain ⟨rfl, rfl⟩ := hr_some hF
    exact jv_iret hC dX5_readFloor_63
  · have hF := hi_pos h1 hF
    refine jv_aload_n hC 0 dX5_readFloor_44 rfl ?_
    obtain ⟨g2, hF⟩ := hg_some hF
    obtain ⟨g3, hF⟩ := hg_some hF
    refine jv_getR hC fl_X5_21 dX5_readFloor_45 rfl g2 g3 ?_
    refine jv_aload_n hC 0 dX5_readFloor_48 rfl ?_
    refine jv_getI hC fl_X5_29 dX5_readFloor_49 rfl g2 ?_
    obtain ⟨g4, hF⟩ := hg_some hF
    refine jv_putI hC fl_X5_79 dX5_readFloor_52 rfl rfl rfl g4 ?_
    obtain ⟨M5, e6, hF⟩ := hl_some hF
    refine jv_mem e6 ?_
    refine jv_aload_n hC 0 dX5_readFloor_55 rfl ?_
    refine jv_bipush hC dX5_readFloor_56 c8_59 ?_
    refine jv_pc 58 rfl ?_
    obtain ⟨r9, M8, c7, hF⟩ := hb_some hF
    refine jv_callV hC (st := []) [.int (59 : Int32)] (k_Reader_take c7) mm_Reader_take mi_Reader_take ml_X5_82 dX5_readFloor_58 g2 rfl (Nat.le_of_ble_eq_true rfl) rfl rfl (Nat.le_of_ble_eq_true rfl) ?_
    refine jv_nf 61 [.int r9] rfl rfl ?_
    refine jv_istore_n hC [(1, .int r9), (0, .ref v0)] dX5_readFloor_61 (by decide) rfl ?_
    refine jv_iload_n hC 0 dX5_readFloor_62 rfl ?_
    obtain ⟨rfl, rfl⟩ := hr_some hF
    exact jv_iret hC dX5_readFloor_63
set_option maxRecDepth 100000 in
set_option maxHeartbeats 4000000 in
theorem s_Reader_readFloor_1 {X : hm_X} {n : Nat} {S : hm_S} (hC : hm_C X RX5 cX5_readFloor 2 (some .int) 10 n S) {v0 : Nat} {v1 : Int32} {M : hm_M} {r : Int32} {M' : hm_M} (hF : b_Reader_readFloor_1 S v0 v1 M = some (r, M')) : hm_U X 17 [(0, .ref v0), (1, .int v1)] [] M (hm_Q X (some (.int r)) M') := by
  unfold b_Reader_readFloor_1 at hF
  refine jv_iload_n hC 1 dX5_readFloor_17 rfl ?_
  refine jv_if_ne hC 40 dX5_readFloor_18 (by decide) (fun h1 => ?_) (fun h1 => ?_)
  · have hF := hi_neg h1 hF
    exact jv_pc 40 rfl (s_Reader_readFloor_2 hC hF)
  · have hF := hi_pos h1 hF
    refine jv_aload_n hC 0 dX5_readFloor_21 rfl ?_
    obtain ⟨g2, hF⟩ := hg_some hF
    obtain ⟨g3, hF⟩ := hg_some hF
    refine jv_getR hC fl_X5_21 dX5_readFloor_22 rfl g2 g3 ?_
    refine jv_aload_n hC 0 dX5_readFloor_25 rfl ?_
    refine jv_getI hC fl_X5_29 dX5_readFloor_26 rfl g2 ?_
    obtain ⟨g4, hF⟩ := hg_some hF
    refine jv_putI hC fl_X5_76 dX5_readFloor_29 rfl rfl rfl g4 ?_
    obtain ⟨M5, e6, hF⟩ := hl_some hF
    refine jv_mem e6 ?_
    refine jv_aload_n hC 0 dX5_readFloor_32 rfl ?_
    refine jv_iconst hC dX5_readFloor_33 c32_1 ?_
    refine jv_pc 34 rfl ?_
    refine jv_bipush hC dX5_readFloor_34 c8_8 ?_
    obtain ⟨r9, M8, c7, hF⟩ := hb_some hF
    refine jv_callV hC (st := []) [.int (1 : Int32), .int (8 : Int32)] (k_Reader_takeNumber c7) mm_Reader_takeNumber mi_Reader_takeNumber ml_X5_72 dX5_readFloor_36 g2 rfl (Nat.le_of_ble_eq_true rfl) rfl rfl (Nat.le_of_ble_eq_true rfl) ?_
    refine jv_nf 39 [.int r9] rfl rfl ?_
    refine jv_istore_n hC [(1, .int r9), (0, .ref v0)] dX5_readFloor_39 (by decide) rfl ?_
    refine jv_sub [1, 0] (ls' := [(0, .ref v0), (1, .int r9)]) rfl ?_
    exact jv_pc 40 rfl (s_Reader_readFloor_2 hC hF)
set_option maxRecDepth 100000 in
set_option maxHeartbeats 4000000 in
theorem k_Reader_readFloor {n : Nat} {S : hm_S} {v0 : Nat} {M : hm_M} {r : Int32} {M' : hm_M} (hF : f_Reader_readFloor S v0 M = some (r, M')) : hm_KM yX5_readFloor cX5_readFloor 2 (some .int) 10 n S [.ref v0] M (some (.int r)) M' := by
  refine hm_enter mm_Reader_readFloor (Nat.le_of_ble_eq_true rfl) (fun X hC => ?_)
  show hm_U X 0 [(0, .ref v0)] [] M _
  unfold f_Reader_readFloor at hF
  refine jv_aload_n hC 0 dX5_readFloor_0 rfl ?_
  obtain ⟨g1, hF⟩ := hg_some hF
  obtain ⟨r4, M3, c2, hF⟩ := hb_some hF
  refine jv_callV hC (st := []) [] (k_Reader_takeOnce c2) mm_Reader_takeOnce mi_Reader_takeOnce ml_X5_69 dX5_readFloor_1 g1 rfl (Nat.le_of_ble_eq_true rfl) rfl rfl (Nat.le_of_ble_eq_true rfl) ?_
  refine jv_nf 4 [.int r4] rfl rfl ?_
  refine jv_istore_n hC [(1, .int r4), (0, .ref v0)] dX5_readFloor_4 (by decide) rfl ?_
  refine jv_iload_n hC 0 dX5_readFloor_5 rfl ?_
  refine jv_if_ne hC 17 dX5_readFloor_6 (by decide) (fun h5 => ?_) (fun h5 => ?_)
  · have hF := hi_neg h5 hF
    refine jv_sub [1, 0] (ls' := [(0, .ref v0), (1, .int r4)]) rfl ?_
    exact jv_pc 17 rfl (s_Reader_readFloor_1 hC hF)
  · have hF := hi_pos h5 hF
    refine jv_aload_n hC 1 dX5_readFloor_9 rfl ?_
    refine jv_iconst hC dX5_readFloor_10 c32_1 ?_
    refine jv_bipush hC dX5_readFloor_11 c8_8 ?_
    obtain ⟨r8, M7, c6, hF⟩ := hb_some hF
    refine jv_callV hC (st := []) [.int (1 : Int32), .int (8 : Int32)] (k_Reader_takeNumber c6) mm_Reader_takeNumber mi_Reader_takeNumber ml_X5_72 dX5_readFloor_13 g1 rfl (Nat.le_of_ble_eq_true rfl) rfl rfl (Nat.le_of_ble_eq_true rfl) ?_
    refine jv_nf 16 [.int r8] rfl rfl ?_
    refine jv_istore_n hC [(1, .int r8), (0, .ref v0)] dX5_readFloor_16 (by decide) rfl ?_
    refine jv_sub [1, 0] (ls' := [(0, .ref v0), (1, .int r8)]) rfl ?_
    exact jv_pc 17 rfl (s_Reader_readFloor_1 hC hF)
set_option maxRecDepth 100000 in
set_option maxHeartbeats 4000000 in
theorem k_Tape_isName {n : Nat} {S : hm_S} {v0 : Nat} {M : hm_M} {r : Int32} {M' : hm_M} (hF : f_Tape_isName S v0 M = some (r, M')) : hm_KM yX7_isName cX7_isName 1 (some .boolean) 1 n S [.ref v0] M (some (.int r)) M' := by
  refine hm_enter mm_Tape_isName (Nat.le_of_ble_eq_true rfl) (fun X hC => ?_)
  show hm_U X 0 [(0, .ref v0)] [] M _
  unfold f_Tape_isName at hF
  refine jv_aload_n hC 0 dX7_isName_0 rfl ?_
  obtain ⟨g1, hF⟩ := hg_some hF
  refine jv_getI hC fl_X7_25 dX7_isName_1 rfl g1 ?_
  refine jv_sipush hC dX7_isName_4 c16_143 ?_
  refine jv_icmp_lt hC 14 dX7_isName_7 (by decide) (fun h2 => ?_) (fun h2 => ?_)
  · have hF := hi_pos h2 hF
    refine jv_iconst hC dX7_isName_14 c32_0 ?_
    obtain ⟨rfl, rfl⟩ := hr_some hF
    exact jv_zret hC (by decide) dX7_isName_15
  · have hF := hi_neg h2 hF
    refine jv_iconst hC dX7_isName_10 c32_1 ?_
    refine jv_goto hC 15 dX7_isName_11 (by decide) ?_
    obtain ⟨rfl, rfl⟩ := hr_some hF
    exact jv_zret hC (by decide) dX7_isName_15
set_option maxRecDepth 100000 in
set_option maxHeartbeats 4000000 in
theorem k_Reader_takeNewName {n : Nat} {S : hm_S} {v0 : Nat} {v1 : Int32} {M : hm_M} {r : Int32} {M' : hm_M} (hF : f_Reader_takeNewName S v0 v1 M = some (r, M')) : hm_KM yX5_takeNewName cX5_takeNewName 2 (some .int) 9 n S [.ref v0, .int v1] M (some (.int r)) M' := by
  refine hm_enter mm_Reader_takeNewName (Nat.le_of_ble_eq_true rfl) (fun X hC => ?_)
  show hm_U X 0 [(0, .ref v0), (1, .int v1)] [] M _
  unfold f_Reader_takeNewName at hF
  refine jv_aload_n hC 0 dX5_takeNewName_0 rfl ?_
  obtain ⟨g1, hF⟩ := hg_some hF
  obtain ⟨g2, hF⟩ := hg_some hF
  refine jv_getR hC fl_X5_12 dX5_takeNewName_1 rfl g1 g2 ?_
  obtain ⟨g3, hF⟩ := hg_some hF
  obtain ⟨r6, M5, c4, hF⟩ := hb_some hF
  refine jv_callV hC (st := []) [] (k_Tape_isName c4) mm_Tape_isName mi_Tape_isName ml_X5_102 dX5_takeNewName_4 g3 rfl (Nat.le_of_ble_eq_true rfl) rfl rfl (Nat.le_of_ble_eq_true rfl) ?_
  refine jv_nf 7 [.int r6] rfl rfl ?_
  refine jv_if_ne hC 12 dX5_takeNewName_7 (by decide) (fun h7 => ?_) (fun h7 => ?_)
  · have hF := hi_neg h7 hF
    refine jv_aload_n hC 0 dX5_takeNewName_12 rfl ?_
    obtain ⟨g8, hF⟩ := hg_some hF
    refine jv_getR hC fl_X5_21 dX5_takeNewName_13 rfl g1 g8 ?_
    refine jv_aload_n hC 0 dX5_takeNewName_16 rfl ?_
    obtain ⟨g9, hF⟩ := hg_some hF
    refine jv_getR hC fl_X5_12 dX5_takeNewName_17 rfl g1 g9 ?_
    obtain ⟨g10, hF⟩ := hg_some hF
    refine jv_getL hC fl_X5_106 dX5_takeNewName_20 rfl g10 ?_
    obtain ⟨g11, hF⟩ := hg_some hF
    obtain ⟨r14, M13, c12, hF⟩ := hb_some hF
    refine jv_callV hC (st := []) [.long (M5.2.1 (M5.2.2 v0 0) 6)] (k_Chapel_guildNamed c12) mm_Chapel_guildNamed mi_Chapel_guildNamed ml_X5_110 dX5_takeNewName_23 g11 rfl (Nat.le_of_ble_eq_true rfl) rfl rfl (Nat.le_of_ble_eq_true rfl) ?_
    refine jv_nf 26 [.int r14] rfl rfl ?_
    refine jv_iconst hC dX5_takeNewName_26 c32_m1 ?_
    refine jv_icmp_eq hC 32 dX5_takeNewName_27 (by decide) (fun h15 => ?_) (fun h15 => ?_)
    · have hF := hi_pos h15 hF
      refine jv_aload_n hC 0 dX5_takeNewName_32 rfl ?_
      obtain ⟨g16, hF⟩ := hg_some hF
      refine jv_getR hC fl_X5_21 dX5_takeNewName_33 rfl g1 g16 ?_
      obtain ⟨g17, hF⟩ := hg_some hF
      obtain ⟨g18, hF⟩ := hg_some hF
      refine jv_getR hC fl_X5_114 dX5_takeNewName_36 rfl g17 g18 ?_
      refine jv_iload_n hC 1 dX5_takeNewName_39 rfl ?_
      refine jv_aload_n hC 0 dX5_takeNewName_40 rfl ?_
      obtain ⟨g19, hF⟩ := hg_some hF
      refine jv_getR hC fl_X5_12 dX5_takeNewName_41 rfl g1 g19 ?_
      obtain ⟨g20, hF⟩ := hg_some hF
      refine jv_getL hC fl_X5_106 dX5_takeNewName_44 rfl g20 ?_
      refine jv_pc 47 rfl ?_
      obtain ⟨g21, hF⟩ := hg_some hF
      obtain ⟨n22, sn22, in22⟩ := hm_ib_ok g21
      refine jv_lastore hC dX5_takeNewName_47 sn22 in22 ?_
      obtain ⟨M23, e24, hF⟩ := hl_some hF
      refine jv_mem e24 ?_
      refine jv_aload_n hC 0 dX5_takeNewName_48 rfl ?_
      obtain ⟨g25, hF⟩ := hg_some hF
      refine jv_getR hC fl_X5_12 dX5_takeNewName_49 rfl g1 g25 ?_
      obtain ⟨g26, hF⟩ := hg_some hF
      obtain ⟨M28, c27, hF⟩ := hv_some hF
      refine jv_callV hC (st := []) [] (k_Tape_next c27) mm_Tape_next mi_Tape_next ml_X5_89 dX5_takeNewName_52 g26 rfl (Nat.le_of_ble_eq_true rfl) rfl rfl (Nat.le_of_ble_eq_true rfl) ?_
      refine jv_nf 55 [] rfl rfl ?_
      refine jv_iconst hC dX5_takeNewName_55 c32_0 ?_
      obtain ⟨rfl, rfl⟩ := hr_some hF
      exact jv_iret hC dX5_takeNewName_56
    · have hF := hi_neg h15 hF
      refine jv_iconst hC dX5_takeNewName_30 c32_3 ?_
      obtain ⟨rfl, rfl⟩ := hr_some hF
      exact jv_iret hC dX5_takeNewName_31
  · have hF := hi_pos h7 hF
    refine jv_iconst hC dX5_takeNewName_10 c32_1 ?_
    obtain ⟨rfl, rfl⟩ := hr_some hF
    exact jv_iret hC dX5_takeNewName_11
set_option maxRecDepth 100000 in
set_option maxHeartbeats 4000000 in
theorem s_Reader_readGuild_5 {X : hm_X} {n : Nat} {S : hm_S} (hC : hm_C X RX5 cX5_readGuild 3 (some .int) 10 n S) {v0 : Nat} {v2 : Int32} {M : hm_M} {r : Int32} {M' : hm_M} (hF : b_Reader_readGuild_5 S v0 v2 M = some (r, M')) : hm_U X 115 [(0, .ref v0), (2, .int v2)] [] M (hm_Q X (some (.int r)) M') := by
  unfold b_Reader_readGuild_5 at hF
  refine jv_iload_n hC 1 dX5_readGuild_115 rfl ?_
  refine jv_if_ne hC 132 dX5_readGuild_116 (by decide) (fun h1 => ?_) (fun h1 => ?_)
  · have hF := hi_neg h1 hF
    refine jv_iload_n hC 1 dX5_readGuild_132 rfl ?_
    obtain ⟨rfl, rfl⟩ := hr_some hF
    exact jv_iret hC dX5_readGuild_133
  · have hF := hi_pos h1 hF
    refine jv_aload_n hC 0 dX5_readGuild_119 rfl ?_
    obtain ⟨g2, hF⟩ := hg_some hF
    obtain ⟨g3, hF⟩ := hg_some hF
    refine jv_getR hC fl_X5_21 dX5_readGuild_120 rfl g2 g3 ?_
    refine jv_dup hC dX5_readGuild_123 rfl ?_
    obtain ⟨g4, hF⟩ := hg_some hF
    refine jv_getI hC fl_X5_86 dX5_readGuild_124 rfl g4 ?_
    refine jv_iconst hC dX5_readGuild_127 c32_1 ?_
    refine jv_iadd hC dX5_readGuild_128 ?_
    refine jv_putI hC fl_X5_86 dX5_readGuild_129 rfl rfl rfl g4 ?_
    obtain ⟨M5, e6, hF⟩ := hl_some hF
    refine jv_mem e6 ?_
    refine jv_pc 132 rfl ?_
    refine jv_iload_n hC 1 dX5_readGuild_132 rfl ?_
    obtain ⟨rfl, rfl⟩ := hr_some hF
    exact jv_iret hC dX5_readGuild_133
set_option maxRecDepth 100000 in
set_option maxHeartbeats 4000000 in
theorem s_Reader_readGuild_4 {X : hm_X} {n : Nat} {S : hm_S} (hC : hm_C X RX5 cX5_readGuild 3 (some .int) 10 n S) {v0 : Nat} {v1 : Int32} {v2 : Int32} {M : hm_M} {r : Int32} {M' : hm_M} (hF : b_Reader_readGuild_4 S v0 v1 v2 M = some (r, M')) : hm_U X 91 [(0, .ref v0), (1, .int v1), (2, .int v2)] [] M (hm_Q X (some (.int r)) M') := by
  unfold b_Reader_readGuild_4 at hF
  refine jv_iload_n hC 2 dX5_readGuild_91 rfl ?_
  refine jv_if_ne hC 115 dX5_readGuild_92 (by decide) (fun h1 => ?_) (fun h1 => ?_)
  · have hF := hi_neg h1 hF
    refine jv_sub [0, 2] (ls' := [(0, .ref v0), (2, .int v2)]) rfl ?_
    exact jv_pc 115 rfl (s_Reader_readGuild_5 hC hF)
  · have hF := hi_pos h1 hF
    refine jv_aload_n hC 0 dX5_readGuild_95 rfl ?_
    obtain ⟨g2, hF⟩ := hg_some hF
    obtain ⟨g3, hF⟩ := hg_some hF
    refine jv_getR hC fl_X5_21 dX5_readGuild_96 rfl g2 g3 ?_
    obtain ⟨g4, hF⟩ := hg_some hF
    obtain ⟨g5, hF⟩ := hg_some hF
    refine jv_getR hC fl_X5_99 dX5_readGuild_99 rfl g4 g5 ?_
    refine jv_iload_n hC 1 dX5_readGuild_102 rfl ?_
    refine jv_aload_n hC 0 dX5_readGuild_103 rfl ?_
    refine jv_getI hC fl_X5_29 dX5_readGuild_104 rfl g2 ?_
    obtain ⟨g6, hF⟩ := hg_some hF
    obtain ⟨n7, sn7, in7⟩ := hm_ib_ok g6
    refine jv_iastore hC dX5_readGuild_107 sn7 in7 ?_
    obtain ⟨M8, e9, hF⟩ := hl_some hF
    refine jv_mem e9 ?_
    refine jv_pc 108 rfl ?_
    refine jv_aload_n hC 0 dX5_readGuild_108 rfl ?_
    refine jv_bipush hC dX5_readGuild_109 c8_59 ?_
    obtain ⟨r12, M11, c10, hF⟩ := hb_some hF
    refine jv_callV hC (st := []) [.int (59 : Int32)] (k_Reader_take c10) mm_Reader_take mi_Reader_take ml_X5_82 dX5_readGuild_111 g2 rfl (Nat.le_of_ble_eq_true rfl) rfl rfl (Nat.le_of_ble_eq_true rfl) ?_
    refine jv_nf 114 [.int r12] rfl rfl ?_
    refine jv_istore_n hC [(2, .int r12), (0, .ref v0), (1, .int v1)] dX5_readGuild_114 (by decide) rfl ?_
    refine jv_sub [1, 0] (ls' := [(0, .ref v0), (2, .int r12)]) rfl ?_
    exact jv_pc 115 rfl (s_Reader_readGuild_5 hC hF)
set_option maxRecDepth 100000 in
set_option maxHeartbeats 4000000 in
theorem s_Reader_readGuild_3 {X : hm_X} {n : Nat} {S : hm_S} (hC : hm_C X RX5 cX5_readGuild 3 (some .int) 10 n S) {v0 : Nat} {v1 : Int32} {v2 : Int32} {M : hm_M} {r : Int32} {M' : hm_M} (hF : b_Reader_readGuild_3 S v0 v1 v2 M = some (r, M')) : hm_U X 78 [(0, .ref v0), (1, .int v1), (2, .int v2)] [] M (hm_Q X (some (.int r)) M') := by
  unfold b_Reader_readGuild_3 at hF
  refine jv_iload_n hC 2 dX5_readGuild_78 rfl ?_
  refine jv_if_ne hC 91 dX5_readGuild_79 (by decide) (fun h1 => ?_) (fun h1 => ?_)
  · have hF := hi_neg h1 hF
    exact jv_pc 91 rfl (s_Reader_readGuild_4 hC hF)
  · have hF := hi_pos h1 hF
    refine jv_aload_n hC 0 dX5_readGuild_82 rfl ?_
    refine jv_iconst hC dX5_readGuild_83 c32_0 ?_
    refine jv_sipush hC dX5_readGuild_84 c16_9999 ?_
    obtain ⟨g2, hF⟩ := hg_some hF
    obtain ⟨r5, M4, c3, hF⟩ := hb_some hF
    refine jv_callV hC (st := []) [.int (0 : Int32), .int (9999 : Int32)] (k_Reader_takeNumber c3) mm_Reader_takeNumber mi_Reader_takeNumber ml_X5_72 dX5_readGuild_87 g2 rfl (Nat.le_of_ble_eq_true rfl) rfl rfl (Nat.le_of_ble_eq_true rfl) ?_
    refine jv_nf 90 [.int r5] rfl rfl ?_
    refine jv_istore_n hC [(2, .int r5), (0, .ref v0), (1, .int v1)] dX5_readGuild_90 (by decide) rfl ?_
    refine jv_sub [1, 2, 0] (ls' := [(0, .ref v0), (1, .int v1), (2, .int r5)]) rfl ?_
    exact jv_pc 91 rfl (s_Reader_readGuild_4 hC hF)
set_option maxRecDepth 100000 in
set_option maxHeartbeats 4000000 in
theorem s_Reader_readGuild_2 {X : hm_X} {n : Nat} {S : hm_S} (hC : hm_C X RX5 cX5_readGuild 3 (some .int) 10 n S) {v0 : Nat} {v1 : Int32} {v2 : Int32} {M : hm_M} {r : Int32} {M' : hm_M} (hF : b_Reader_readGuild_2 S v0 v1 v2 M = some (r, M')) : hm_U X 53 [(0, .ref v0), (1, .int v1), (2, .int v2)] [] M (hm_Q X (some (.int r)) M') := by
  unfold b_Reader_readGuild_2 at hF
  refine jv_iload_n hC 2 dX5_readGuild_53 rfl ?_
  refine jv_if_ne hC 78 dX5_readGuild_54 (by decide) (fun h1 => ?_) (fun h1 => ?_)
  · have hF := hi_neg h1 hF
    exact jv_pc 78 rfl (s_Reader_readGuild_3 hC hF)
  · have hF := hi_pos h1 hF
    refine jv_aload_n hC 0 dX5_readGuild_57 rfl ?_
    obtain ⟨g2, hF⟩ := hg_some hF
    obtain ⟨g3, hF⟩ := hg_some hF
    refine jv_getR hC fl_X5_21 dX5_readGuild_58 rfl g2 g3 ?_
    obtain ⟨g4, hF⟩ := hg_some hF
    obtain ⟨g5, hF⟩ := hg_some hF
    refine jv_getR hC fl_X5_95 dX5_readGuild_61 rfl g4 g5 ?_
    refine jv_iload_n hC 1 dX5_readGuild_64 rfl ?_
    refine jv_aload_n hC 0 dX5_readGuild_65 rfl ?_
    refine jv_getI hC fl_X5_29 dX5_readGuild_66 rfl g2 ?_
    obtain ⟨g6, hF⟩ := hg_some hF
    obtain ⟨n7, sn7, in7⟩ := hm_ib_ok g6
    refine jv_iastore hC dX5_readGuild_69 sn7 in7 ?_
    obtain ⟨M8, e9, hF⟩ := hl_some hF
    refine jv_mem e9 ?_
    refine jv_pc 70 rfl ?_
    refine jv_aload_n hC 0 dX5_readGuild_70 rfl ?_
    refine jv_sipush hC dX5_readGuild_71 c16_131 ?_
    obtain ⟨r12, M11, c10, hF⟩ := hb_some hF
    refine jv_callV hC (st := []) [.int (131 : Int32)] (k_Reader_take c10) mm_Reader_take mi_Reader_take ml_X5_82 dX5_readGuild_74 g2 rfl (Nat.le_of_ble_eq_true rfl) rfl rfl (Nat.le_of_ble_eq_true rfl) ?_
    refine jv_nf 77 [.int r12] rfl rfl ?_
    refine jv_istore_n hC [(2, .int r12), (0, .ref v0), (1, .int v1)] dX5_readGuild_77 (by decide) rfl ?_
    refine jv_sub [1, 2, 0] (ls' := [(0, .ref v0), (1, .int v1), (2, .int r12)]) rfl ?_
    exact jv_pc 78 rfl (s_Reader_readGuild_3 hC hF)
set_option maxRecDepth 100000 in
set_option maxHeartbeats 4000000 in
theorem s_Reader_readGuild_1 {X : hm_X} {n : Nat} {S : hm_S} (hC : hm_C X RX5 cX5_readGuild 3 (some .int) 10 n S) {v0 : Nat} {v1 : Int32} {v2 : Int32} {M : hm_M} {r : Int32} {M' : hm_M} (hF : b_Reader_readGuild_1 S v0 v1 v2 M = some (r, M')) : hm_U X 41 [(0, .ref v0), (1, .int v1), (2, .int v2)] [] M (hm_Q X (some (.int r)) M') := by
  unfold b_Reader_readGuild_1 at hF
  refine jv_iload_n hC 2 dX5_readGuild_41 rfl ?_
  refine jv_if_ne hC 53 dX5_readGuild_42 (by decide) (fun h1 => ?_) (fun h1 => ?_)
  · have hF := hi_neg h1 hF
    exact jv_pc 53 rfl (s_Reader_readGuild_2 hC hF)
  · have hF := hi_pos h1 hF
    refine jv_aload_n hC 0 dX5_readGuild_45 rfl ?_
    refine jv_iconst hC dX5_readGuild_46 c32_0 ?_
    refine jv_bipush hC dX5_readGuild_47 c8_7 ?_
    obtain ⟨g2, hF⟩ := hg_some hF
    obtain ⟨r5, M4, c3, hF⟩ := hb_some hF
    refine jv_callV hC (st := []) [.int (0 : Int32), .int (7 : Int32)] (k_Reader_takeNumber c3) mm_Reader_takeNumber mi_Reader_takeNumber ml_X5_72 dX5_readGuild_49 g2 rfl (Nat.le_of_ble_eq_true rfl) rfl rfl (Nat.le_of_ble_eq_true rfl) ?_
    refine jv_nf 52 [.int r5] rfl rfl ?_
    refine jv_istore_n hC [(2, .int r5), (0, .ref v0), (1, .int v1)] dX5_readGuild_52 (by decide) rfl ?_
    refine jv_sub [1, 2, 0] (ls' := [(0, .ref v0), (1, .int v1), (2, .int r5)]) rfl ?_
    exact jv_pc 53 rfl (s_Reader_readGuild_2 hC hF)
set_option maxRecDepth 100000 in
set_option maxHeartbeats 4000000 in
theorem k_Reader_readGuild {n : Nat} {S : hm_S} {v0 : Nat} {M : hm_M} {r : Int32} {M' : hm_M} (hF : f_Reader_readGuild S v0 M = some (r, M')) : hm_KM yX5_readGuild cX5_readGuild 3 (some .int) 10 n S [.ref v0] M (some (.int r)) M' := by
  refine hm_enter mm_Reader_readGuild (Nat.le_of_ble_eq_true rfl) (fun X hC => ?_)
  show hm_U X 0 [(0, .ref v0)] [] M _
  unfold f_Reader_readGuild at hF
  refine jv_aload_n hC 0 dX5_readGuild_0 rfl ?_
  obtain ⟨g1, hF⟩ := hg_some hF
  obtain ⟨g2, hF⟩ := hg_some hF
  refine jv_getR hC fl_X5_21 dX5_readGuild_1 rfl g1 g2 ?_
  obtain ⟨g3, hF⟩ := hg_some hF
  refine jv_getI hC fl_X5_86 dX5_readGuild_4 rfl g3 ?_
  obtain ⟨x4, e5, hF⟩ := hl_some hF
  refine jv_topI e5 ?_
  refine jv_istore_n hC [(1, .int x4), (0, .ref v0)] dX5_readGuild_7 (by decide) rfl ?_
  refine jv_iload_n hC 0 dX5_readGuild_8 rfl ?_
  refine jv_bipush hC dX5_readGuild_9 c8_6 ?_
  refine jv_icmp_lt hC 16 dX5_readGuild_11 (by decide) (fun h6 => ?_) (fun h6 => ?_)
  · have hF := hi_pos h6 hF
    refine jv_aload_n hC 1 dX5_readGuild_16 rfl ?_
    obtain ⟨g7, hF⟩ := hg_some hF
    refine jv_getR hC fl_X5_12 dX5_readGuild_17 rfl g1 g7 ?_
    obtain ⟨g8, hF⟩ := hg_some hF
    obtain ⟨M10, c9, hF⟩ := hv_some hF
    refine jv_callV hC (st := []) [] (k_Tape_next c9) mm_Tape_next mi_Tape_next ml_X5_89 dX5_readGuild_20 g8 rfl (Nat.le_of_ble_eq_true rfl) rfl rfl (Nat.le_of_ble_eq_true rfl) ?_
    refine jv_nf 23 [] rfl rfl ?_
    refine jv_aload_n hC 1 dX5_readGuild_23 rfl ?_
    refine jv_iload_n hC 0 dX5_readGuild_24 rfl ?_
    obtain ⟨r13, M12, c11, hF⟩ := hb_some hF
    refine jv_callV hC (st := []) [.int x4] (k_Reader_takeNewName c11) mm_Reader_takeNewName mi_Reader_takeNewName ml_X5_92 dX5_readGuild_25 g1 rfl (Nat.le_of_ble_eq_true rfl) rfl rfl (Nat.le_of_ble_eq_true rfl) ?_
    refine jv_nf 28 [.int r13] rfl rfl ?_
    refine jv_istore_n hC [(2, .int r13), (1, .int x4), (0, .ref v0)] dX5_readGuild_28 (by decide) rfl ?_
    refine jv_iload_n hC 0 dX5_readGuild_29 rfl ?_
    refine jv_if_ne hC 41 dX5_readGuild_30 (by decide) (fun h14 => ?_) (fun h14 => ?_)
    · have hF := hi_neg h14 hF
      refine jv_sub [2, 1, 0] (ls' := [(0, .ref v0), (1, .int x4), (2, .int r13)]) rfl ?_
      exact jv_pc 41 rfl (s_Reader_readGuild_1 hC hF)
    · have hF := hi_pos h14 hF
      refine jv_aload_n hC 2 dX5_readGuild_33 rfl ?_
      refine jv_sipush hC dX5_readGuild_34 c16_130 ?_
      obtain ⟨r17, M16, c15, hF⟩ := hb_some hF
      refine jv_callV hC (st := []) [.int (130 : Int32)] (k_Reader_take c15) mm_Reader_take mi_Reader_take ml_X5_82 dX5_readGuild_37 g1 rfl (Nat.le_of_ble_eq_true rfl) rfl rfl (Nat.le_of_ble_eq_true rfl) ?_
      refine jv_nf 40 [.int r17] rfl rfl ?_
      refine jv_istore_n hC [(2, .int r17), (1, .int x4), (0, .ref v0)] dX5_readGuild_40 (by decide) rfl ?_
      refine jv_sub [2, 1, 0] (ls' := [(0, .ref v0), (1, .int x4), (2, .int r17)]) rfl ?_
      exact jv_pc 41 rfl (s_Reader_readGuild_1 hC hF)
  · have hF := hi_neg h6 hF
    refine jv_iconst hC dX5_readGuild_14 c32_5 ?_
    obtain ⟨rfl, rfl⟩ := hr_some hF
    exact jv_iret hC dX5_readGuild_15
set_option maxRecDepth 100000 in
set_option maxHeartbeats 4000000 in
theorem k_Reader_isRowOfPane {n : Nat} {S : hm_S} {v0 : Nat} {v1 : Int32} {M : hm_M} {r : Int32} {M' : hm_M} (hF : f_Reader_isRowOfPane S v0 v1 M = some (r, M')) : hm_KM yX5_isRowOfPane cX5_isRowOfPane 2 (some .boolean) 2 n S [.ref v0, .int v1] M (some (.int r)) M' := by
  refine hm_enter mm_Reader_isRowOfPane (Nat.le_of_ble_eq_true rfl) (fun X hC => ?_)
  show hm_U X 0 [(0, .ref v0), (1, .int v1)] [] M _
  unfold f_Reader_isRowOfPane at hF
  refine jv_aload_n hC 0 dX5_isRowOfPane_0 rfl ?_
  obtain ⟨g1, hF⟩ := hg_some hF
  obtain ⟨g2, hF⟩ := hg_some hF
  refine jv_getR hC fl_X5_12 dX5_isRowOfPane_1 rfl g1 g2 ?_
  obtain ⟨g3, hF⟩ := hg_some hF
  refine jv_getI hC fl_X5_41 dX5_isRowOfPane_4 rfl g3 ?_
  refine jv_iconst hC dX5_isRowOfPane_7 c32_2 ?_
  refine jv_icmp_ne hC 33 dX5_isRowOfPane_8 (by decide) (fun h4 => ?_) (fun h4 => ?_)
  · have hF := hi_neg h4 hF
    refine jv_iconst hC dX5_isRowOfPane_33 c32_0 ?_
    obtain ⟨rfl, rfl⟩ := hr_some hF
    exact jv_zret hC (by decide) dX5_isRowOfPane_34
  · have hF := hi_pos h4 hF
    refine jv_aload_n hC 0 dX5_isRowOfPane_11 rfl ?_
    obtain ⟨g5, hF⟩ := hg_some hF
    refine jv_getR hC fl_X5_21 dX5_isRowOfPane_12 rfl g1 g5 ?_
    refine jv_iload_n hC 1 dX5_isRowOfPane_15 rfl ?_
    refine jv_aload_n hC 0 dX5_isRowOfPane_16 rfl ?_
    refine jv_getR hC fl_X5_12 dX5_isRowOfPane_17 rfl g1 g2 ?_
    refine jv_getI hC fl_X5_137 dX5_isRowOfPane_20 rfl g3 ?_
    obtain ⟨g6, hF⟩ := hg_some hF
    obtain ⟨r9, M8, c7, hF⟩ := hb_some hF
    refine jv_callV hC (st := []) [.int v1, .int (M.1 (M.2.2 v0 0) 5)] (k_Chapel_hasPaneAt c7) mm_Chapel_hasPaneAt mi_Chapel_hasPaneAt ml_X5_140 dX5_isRowOfPane_23 g6 rfl (Nat.le_of_ble_eq_true rfl) rfl rfl (Nat.le_of_ble_eq_true rfl) ?_
    refine jv_nf 26 [.int r9] rfl rfl ?_
    refine jv_if_eq hC 33 dX5_isRowOfPane_26 (by decide) (fun h10 => ?_) (fun h10 => ?_)
    · have hF := hi_pos h10 hF
      refine jv_iconst hC dX5_isRowOfPane_33 c32_0 ?_
      obtain ⟨rfl, rfl⟩ := hr_some hF
      exact jv_zret hC (by decide) dX5_isRowOfPane_34
    · have hF := hi_neg h10 hF
      refine jv_iconst hC dX5_isRowOfPane_29 c32_1 ?_
      refine jv_goto hC 34 dX5_isRowOfPane_30 (by decide) ?_
      obtain ⟨rfl, rfl⟩ := hr_some hF
      exact jv_zret hC (by decide) dX5_isRowOfPane_34
set_option maxRecDepth 100000 in
set_option maxHeartbeats 4000000 in
theorem k_Reader_takeGiver {n : Nat} {S : hm_S} {v0 : Nat} {v1 : Int32} {M : hm_M} {r : Int32} {M' : hm_M} (hF : f_Reader_takeGiver S v0 v1 M = some (r, M')) : hm_KM yX5_takeGiver cX5_takeGiver 3 (some .int) 9 n S [.ref v0, .int v1] M (some (.int r)) M' := by
  refine hm_enter mm_Reader_takeGiver (Nat.le_of_ble_eq_true rfl) (fun X hC => ?_)
  show hm_U X 0 [(0, .ref v0), (1, .int v1)] [] M _
  unfold f_Reader_takeGiver at hF
  refine jv_aload_n hC 0 dX5_takeGiver_0 rfl ?_
  obtain ⟨g1, hF⟩ := hg_some hF
  obtain ⟨g2, hF⟩ := hg_some hF
  refine jv_getR hC fl_X5_12 dX5_takeGiver_1 rfl g1 g2 ?_
  obtain ⟨g3, hF⟩ := hg_some hF
  obtain ⟨r6, M5, c4, hF⟩ := hb_some hF
  refine jv_callV hC (st := []) [] (k_Tape_isName c4) mm_Tape_isName mi_Tape_isName ml_X5_102 dX5_takeGiver_4 g3 rfl (Nat.le_of_ble_eq_true rfl) rfl rfl (Nat.le_of_ble_eq_true rfl) ?_
  refine jv_nf 7 [.int r6] rfl rfl ?_
  refine jv_if_ne hC 12 dX5_takeGiver_7 (by decide) (fun h7 => ?_) (fun h7 => ?_)
  · have hF := hi_neg h7 hF
    refine jv_aload_n hC 0 dX5_takeGiver_12 rfl ?_
    obtain ⟨g8, hF⟩ := hg_some hF
    refine jv_getR hC fl_X5_21 dX5_takeGiver_13 rfl g1 g8 ?_
    refine jv_aload_n hC 0 dX5_takeGiver_16 rfl ?_
    obtain ⟨g9, hF⟩ := hg_some hF
    refine jv_getR hC fl_X5_12 dX5_takeGiver_17 rfl g1 g9 ?_
    obtain ⟨g10, hF⟩ := hg_some hF
    refine jv_getL hC fl_X5_106 dX5_takeGiver_20 rfl g10 ?_
    obtain ⟨g11, hF⟩ := hg_some hF
    obtain ⟨r14, M13, c12, hF⟩ := hb_some hF
    refine jv_callV hC (st := []) [.long (M5.2.1 (M5.2.2 v0 0) 6)] (k_Chapel_guildNamed c12) mm_Chapel_guildNamed mi_Chapel_guildNamed ml_X5_110 dX5_takeGiver_23 g11 rfl (Nat.le_of_ble_eq_true rfl) rfl rfl (Nat.le_of_ble_eq_true rfl) ?_
    refine jv_nf 26 [.int r14] rfl rfl ?_
    refine jv_istore_n hC [(2, .int r14), (0, .ref v0), (1, .int v1)] dX5_takeGiver_26 (by decide) rfl ?_
    refine jv_iload_n hC 0 dX5_takeGiver_27 rfl ?_
    refine jv_iconst hC dX5_takeGiver_28 c32_m1 ?_
    refine jv_icmp_ne hC 34 dX5_takeGiver_29 (by decide) (fun h15 => ?_) (fun h15 => ?_)
    · have hF := hi_neg h15 hF
      refine jv_aload_n hC 1 dX5_takeGiver_34 rfl ?_
      obtain ⟨g16, hF⟩ := hg_some hF
      refine jv_getR hC fl_X5_21 dX5_takeGiver_35 rfl g1 g16 ?_
      obtain ⟨g17, hF⟩ := hg_some hF
      obtain ⟨g18, hF⟩ := hg_some hF
      refine jv_getR hC fl_X5_144 dX5_takeGiver_38 rfl g17 g18 ?_
      refine jv_iload_n hC 2 dX5_takeGiver_41 rfl ?_
      refine jv_iload_n hC 0 dX5_takeGiver_42 rfl ?_
      obtain ⟨g19, hF⟩ := hg_some hF
      obtain ⟨n20, sn20, in20⟩ := hm_ib_ok g19
      refine jv_iastore hC dX5_takeGiver_43 sn20 in20 ?_
      obtain ⟨M21, e22, hF⟩ := hl_some hF
      refine jv_mem e22 ?_
      refine jv_aload_n hC 1 dX5_takeGiver_44 rfl ?_
      refine jv_pc 45 rfl ?_
      obtain ⟨g23, hF⟩ := hg_some hF
      refine jv_getR hC fl_X5_12 dX5_takeGiver_45 rfl g1 g23 ?_
      obtain ⟨g24, hF⟩ := hg_some hF
      obtain ⟨M26, c25, hF⟩ := hv_some hF
      refine jv_callV hC (st := []) [] (k_Tape_next c25) mm_Tape_next mi_Tape_next ml_X5_89 dX5_takeGiver_48 g24 rfl (Nat.le_of_ble_eq_true rfl) rfl rfl (Nat.le_of_ble_eq_true rfl) ?_
      refine jv_nf 51 [] rfl rfl ?_
      refine jv_iconst hC dX5_takeGiver_51 c32_0 ?_
      obtain ⟨rfl, rfl⟩ := hr_some hF
      exact jv_iret hC dX5_takeGiver_52
    · have hF := hi_pos h15 hF
      refine jv_iconst hC dX5_takeGiver_32 c32_2 ?_
      obtain ⟨rfl, rfl⟩ := hr_some hF
      exact jv_iret hC dX5_takeGiver_33
  · have hF := hi_pos h7 hF
    refine jv_iconst hC dX5_takeGiver_10 c32_1 ?_
    obtain ⟨rfl, rfl⟩ := hr_some hF
    exact jv_iret hC dX5_takeGiver_11
set_option maxRecDepth 100000 in
set_option maxHeartbeats 4000000 in
theorem s_Reader_readPane_7 {X : hm_X} {n : Nat} {S : hm_S} (hC : hm_C X RX5 cX5_readPane 3 (some .int) 10 n S) {v0 : Nat} {v2 : Int32} {M : hm_M} {r : Int32} {M' : hm_M} (hF : b_Reader_readPane_7 S v0 v2 M = some (r, M')) : hm_U X 153 [(0, .ref v0), (2, .int v2)] [] M (hm_Q X (some (.int r)) M') := by
  unfold b_Reader_readPane_7 at hF
  refine jv_iload_n hC 1 dX5_readPane_153 rfl ?_
  refine jv_if_ne hC 170 dX5_readPane_154 (by decide) (fun h1 => ?_) (fun h1 => ?_)
  · have hF := hi_neg h1 hF
    refine jv_iload_n hC 1 dX5_readPane_170 rfl ?_
    obtain ⟨rfl, rfl⟩ := hr_some hF
    exact jv_iret hC dX5_readPane_171
  · have hF := hi_pos h1 hF
    refine jv_aload_n hC 0 dX5_readPane_157 rfl ?_
    obtain ⟨g2, hF⟩ := hg_some hF
    obtain ⟨g3, hF⟩ := hg_some hF
    refine jv_getR hC fl_X5_21 dX5_readPane_158 rfl g2 g3 ?_
    refine jv_dup hC dX5_readPane_161 rfl ?_
    obtain ⟨g4, hF⟩ := hg_some hF
    refine jv_getI hC fl_X5_118 dX5_readPane_162 rfl g4 ?_
    refine jv_iconst hC dX5_readPane_165 c32_1 ?_
    refine jv_iadd hC dX5_readPane_166 ?_
    refine jv_putI hC fl_X5_118 dX5_readPane_167 rfl rfl rfl g4 ?_
    obtain ⟨M5, e6, hF⟩ := hl_some hF
    refine jv_mem e6 ?_
    refine jv_pc 170 rfl ?_
    refine jv_iload_n hC 1 dX5_readPane_170 rfl ?_
    obtain ⟨rfl, rfl⟩ := hr_some hF
    exact jv_iret hC dX5_readPane_171
set_option maxRecDepth 100000 in
set_option maxHeartbeats 4000000 in
theorem s_Reader_readPane_6 {X : hm_X} {n : Nat} {S : hm_S} (hC : hm_C X RX5 cX5_readPane 3 (some .int) 10 n S) {v0 : Nat} {v1 : Int32} {v2 : Int32} {M : hm_M} {r : Int32} {M' : hm_M} (hF : b_Reader_readPane_6 S v0 v1 v2 M = some (r, M')) : hm_U X 129 [(0, .ref v0), (1, .int v1), (2, .int v2)] [] M (hm_Q X (some (.int r)) M') := by
  unfold b_Reader_readPane_6 at hF
  refine jv_iload_n hC 2 dX5_readPane_129 rfl ?_
  refine jv_if_ne hC 153 dX5_readPane_130 (by decide) (fun h1 => ?_) (fun h1 => ?_)
  · have hF := hi_neg h1 hF
    refine jv_sub [0, 2] (ls' := [(0, .ref v0), (2, .int v2)]) rfl ?_
    exact jv_pc 153 rfl (s_Reader_readPane_7 hC hF)
  · have hF := hi_pos h1 hF
    refine jv_aload_n hC 0 dX5_readPane_133 rfl ?_
    obtain ⟨g2, hF⟩ := hg_some hF
    obtain ⟨g3, hF⟩ := hg_some hF
    refine jv_getR hC fl_X5_21 dX5_readPane_134 rfl g2 g3 ?_
    obtain ⟨g4, hF⟩ := hg_some hF
    obtain ⟨g5, hF⟩ := hg_some hF
    refine jv_getR hC fl_X5_134 dX5_readPane_137 rfl g4 g5 ?_
    refine jv_iload_n hC 1 dX5_readPane_140 rfl ?_
    refine jv_aload_n hC 0 dX5_readPane_141 rfl ?_
    refine jv_getI hC fl_X5_29 dX5_readPane_142 rfl g2 ?_
    obtain ⟨g6, hF⟩ := hg_some hF
    obtain ⟨n7, sn7, in7⟩ := hm_ib_ok g6
    refine jv_iastore hC dX5_readPane_145 sn7 in7 ?_
    obtain ⟨M8, e9, hF⟩ := hl_some hF
    refine jv_mem e9 ?_
    refine jv_pc 146 rfl ?_
    refine jv_aload_n hC 0 dX5_readPane_146 rfl ?_
    refine jv_bipush hC dX5_readPane_147 c8_59 ?_
    obtain ⟨r12, M11, c10, hF⟩ := hb_some hF
    refine jv_callV hC (st := []) [.int (59 : Int32)] (k_Reader_take c10) mm_Reader_take mi_Reader_take ml_X5_82 dX5_readPane_149 g2 rfl (Nat.le_of_ble_eq_true rfl) rfl rfl (Nat.le_of_ble_eq_true rfl) ?_
    refine jv_nf 152 [.int r12] rfl rfl ?_
    refine jv_istore_n hC [(2, .int r12), (0, .ref v0), (1, .int v1)] dX5_readPane_152 (by decide) rfl ?_
    refine jv_sub [1, 0] (ls' := [(0, .ref v0), (2, .int r12)]) rfl ?_
    exact jv_pc 153 rfl (s_Reader_readPane_7 hC hF)
set_option maxRecDepth 100000 in
set_option maxHeartbeats 4000000 in
theorem s_Reader_readPane_5 {X : hm_X} {n : Nat} {S : hm_S} (hC : hm_C X RX5 cX5_readPane 3 (some .int) 10 n S) {v0 : Nat} {v1 : Int32} {v2 : Int32} {M : hm_M} {r : Int32} {M' : hm_M} (hF : b_Reader_readPane_5 S v0 v1 v2 M = some (r, M')) : hm_U X 117 [(0, .ref v0), (1, .int v1), (2, .int v2)] [] M (hm_Q X (some (.int r)) M') := by
  unfold b_Reader_readPane_5 at hF
  refine jv_iload_n hC 2 dX5_readPane_117 rfl ?_
  refine jv_if_ne hC 129 dX5_readPane_118 (by decide) (fun h1 => ?_) (fun h1 => ?_)
  · have hF := hi_neg h1 hF
    exact jv_pc 129 rfl (s_Reader_readPane_6 hC hF)
  · have hF := hi_pos h1 hF
    refine jv_aload_n hC 0 dX5_readPane_121 rfl ?_
    refine jv_iconst hC dX5_readPane_122 c32_1 ?_
    refine jv_bipush hC dX5_readPane_123 c8_7 ?_
    obtain ⟨g2, hF⟩ := hg_some hF
    obtain ⟨r5, M4, c3, hF⟩ := hb_some hF
    refine jv_callV hC (st := []) [.int (1 : Int32), .int (7 : Int32)] (k_Reader_takeNumber c3) mm_Reader_takeNumber mi_Reader_takeNumber ml_X5_72 dX5_readPane_125 g2 rfl (Nat.le_of_ble_eq_true rfl) rfl rfl (Nat.le_of_ble_eq_true rfl) ?_
    refine jv_nf 128 [.int r5] rfl rfl ?_
    refine jv_istore_n hC [(2, .int r5), (0, .ref v0), (1, .int v1)] dX5_readPane_128 (by decide) rfl ?_
    refine jv_sub [1, 2, 0] (ls' := [(0, .ref v0), (1, .int v1), (2, .int r5)]) rfl ?_
    exact jv_pc 129 rfl (s_Reader_readPane_6 hC hF)
set_option maxRecDepth 100000 in
set_option maxHeartbeats 4000000 in
theorem s_Reader_readPane_4 {X : hm_X} {n : Nat} {S : hm_S} (hC : hm_C X RX5 cX5_readPane 3 (some .int) 10 n S) {v0 : Nat} {v1 : Int32} {v2 : Int32} {M : hm_M} {r : Int32} {M' : hm_M} (hF : b_Reader_readPane_4 S v0 v1 v2 M = some (r, M')) : hm_U X 105 [(0, .ref v0), (1, .int v1), (2, .int v2)] [] M (hm_Q X (some (.int r)) M') := by
  unfold b_Reader_readPane_4 at hF
  refine jv_iload_n hC 2 dX5_readPane_105 rfl ?_
  refine jv_if_ne hC 117 dX5_readPane_106 (by decide) (fun h1 => ?_) (fun h1 => ?_)
  · have hF := hi_neg h1 hF
    exact jv_pc 117 rfl (s_Reader_readPane_5 hC hF)
  · have hF := hi_pos h1 hF
    refine jv_aload_n hC 0 dX5_readPane_109 rfl ?_
    refine jv_sipush hC dX5_readPane_110 c16_134 ?_
    obtain ⟨g2, hF⟩ := hg_some hF
    obtain ⟨r5, M4, c3, hF⟩ := hb_some hF
    refine jv_callV hC (st := []) [.int (134 : Int32)] (k_Reader_take c3) mm_Reader_take mi_Reader_take ml_X5_82 dX5_readPane_113 g2 rfl (Nat.le_of_ble_eq_true rfl) rfl rfl (Nat.le_of_ble_eq_true rfl) ?_
    refine jv_nf 116 [.int r5] rfl rfl ?_
    refine jv_istore_n hC [(2, .int r5), (0, .ref v0), (1, .int v1)] dX5_readPane_116 (by decide) rfl ?_
    refine jv_sub [1, 2, 0] (ls' := [(0, .ref v0), (1, .int v1), (2, .int r5)]) rfl ?_
    exact jv_pc 117 rfl (s_Reader_readPane_5 hC hF)
set_option maxRecDepth 100000 in
set_option maxHeartbeats 4000000 in
theorem s_Reader_readPane_3 {X : hm_X} {n : Nat} {S : hm_S} (hC : hm_C X RX5 cX5_readPane 3 (some .int) 10 n S) {v0 : Nat} {v1 : Int32} {v2 : Int32} {M : hm_M} {r : Int32} {M' : hm_M} (hF : b_Reader_readPane_3 S v0 v1 v2 M = some (r, M')) : hm_U X 95 [(0, .ref v0), (1, .int v1), (2, .int v2)] [] M (hm_Q X (some (.int r)) M') := by
  unfold b_Reader_readPane_3 at hF
  refine jv_iload_n hC 2 dX5_readPane_95 rfl ?_
  refine jv_if_ne hC 105 dX5_readPane_96 (by decide) (fun h1 => ?_) (fun h1 => ?_)
  · have hF := hi_neg h1 hF
    exact jv_pc 105 rfl (s_Reader_readPane_4 hC hF)
  · have hF := hi_pos h1 hF
    refine jv_aload_n hC 0 dX5_readPane_99 rfl ?_
    refine jv_iload_n hC 1 dX5_readPane_100 rfl ?_
    obtain ⟨g2, hF⟩ := hg_some hF
    obtain ⟨r5, M4, c3, hF⟩ := hb_some hF
    refine jv_callV hC (st := []) [.int v1] (k_Reader_takeGiver c3) mm_Reader_takeGiver mi_Reader_takeGiver ml_X5_131 dX5_readPane_101 g2 rfl (Nat.le_of_ble_eq_true rfl) rfl rfl (Nat.le_of_ble_eq_true rfl) ?_
    refine jv_nf 104 [.int r5] rfl rfl ?_
    refine jv_istore_n hC [(2, .int r5), (0, .ref v0), (1, .int v1)] dX5_readPane_104 (by decide) rfl ?_
    refine jv_sub [1, 2, 0] (ls' := [(0, .ref v0), (1, .int v1), (2, .int r5)]) rfl ?_
    exact jv_pc 105 rfl (s_Reader_readPane_4 hC hF)
set_option maxRecDepth 100000 in
set_option maxHeartbeats 4000000 in
theorem s_Reader_readPane_2 {X : hm_X} {n : Nat} {S : hm_S} (hC : hm_C X RX5 cX5_readPane 3 (some .int) 10 n S) {v0 : Nat} {v1 : Int32} {v2 : Int32} {M : hm_M} {r : Int32} {M' : hm_M} (hF : b_Reader_readPane_2 S v0 v1 v2 M = some (r, M')) : hm_U X 70 [(0, .ref v0), (1, .int v1), (2, .int v2)] [] M (hm_Q X (some (.int r)) M') := by
  unfold b_Reader_readPane_2 at hF
  refine jv_iload_n hC 2 dX5_readPane_70 rfl ?_
  refine jv_if_ne hC 95 dX5_readPane_71 (by decide) (fun h1 => ?_) (fun h1 => ?_)
  · have hF := hi_neg h1 hF
    exact jv_pc 95 rfl (s_Reader_readPane_3 hC hF)
  · have hF := hi_pos h1 hF
    refine jv_aload_n hC 0 dX5_readPane_74 rfl ?_
    obtain ⟨g2, hF⟩ := hg_some hF
    obtain ⟨g3, hF⟩ := hg_some hF
    refine jv_getR hC fl_X5_21 dX5_readPane_75 rfl g2 g3 ?_
    obtain ⟨g4, hF⟩ := hg_some hF
    obtain ⟨g5, hF⟩ := hg_some hF
    refine jv_getR hC fl_X5_128 dX5_readPane_78 rfl g4 g5 ?_
    refine jv_iload_n hC 1 dX5_readPane_81 rfl ?_
    refine jv_aload_n hC 0 dX5_readPane_82 rfl ?_
    refine jv_getI hC fl_X5_29 dX5_readPane_83 rfl g2 ?_
    obtain ⟨g6, hF⟩ := hg_some hF
    obtain ⟨n7, sn7, in7⟩ := hm_ib_ok g6
    refine jv_iastore hC dX5_readPane_86 sn7 in7 ?_
    obtain ⟨M8, e9, hF⟩ := hl_some hF
    refine jv_mem e9 ?_
    refine jv_pc 87 rfl ?_
    refine jv_aload_n hC 0 dX5_readPane_87 rfl ?_
    refine jv_sipush hC dX5_readPane_88 c16_133 ?_
    obtain ⟨r12, M11, c10, hF⟩ := hb_some hF
    refine jv_callV hC (st := []) [.int (133 : Int32)] (k_Reader_take c10) mm_Reader_take mi_Reader_take ml_X5_82 dX5_readPane_91 g2 rfl (Nat.le_of_ble_eq_true rfl) rfl rfl (Nat.le_of_ble_eq_true rfl) ?_
    refine jv_nf 94 [.int r12] rfl rfl ?_
    refine jv_istore_n hC [(2, .int r12), (0, .ref v0), (1, .int v1)] dX5_readPane_94 (by decide) rfl ?_
    refine jv_sub [1, 2, 0] (ls' := [(0, .ref v0), (1, .int v1), (2, .int r12)]) rfl ?_
    exact jv_pc 95 rfl (s_Reader_readPane_3 hC hF)
set_option maxRecDepth 100000 in
set_option maxHeartbeats 4000000 in
theorem s_Reader_readPane_1 {X : hm_X} {n : Nat} {S : hm_S} (hC : hm_C X RX5 cX5_readPane 3 (some .int) 10 n S) {v0 : Nat} {v1 : Int32} {s0 : Int32} {M : hm_M} {r : Int32} {M' : hm_M} (hF : b_Reader_readPane_1 S v0 v1 s0 M = some (r, M')) : hm_U X 69 [(0, .ref v0), (1, .int v1)] [.int s0] M (hm_Q X (some (.int r)) M') := by
  unfold b_Reader_readPane_1 at hF
  refine jv_istore_n hC [(2, .int s0), (0, .ref v0), (1, .int v1)] dX5_readPane_69 (by decide) rfl ?_
  refine jv_sub [1, 2, 0] (ls' := [(0, .ref v0), (1, .int v1), (2, .int s0)]) rfl ?_
  exact jv_pc 70 rfl (s_Reader_readPane_2 hC hF)
set_option maxRecDepth 100000 in
set_option maxHeartbeats 4000000 in
theorem k_Reader_readPane {n : Nat} {S : hm_S} {v0 : Nat} {M : hm_M} {r : Int32} {M' : hm_M} (hF : f_Reader_readPane S v0 M = some (r, M')) : hm_KM yX5_readPane cX5_readPane 3 (some .int) 10 n S [.ref v0] M (some (.int r)) M' := by
  refine hm_enter mm_Reader_readPane (Nat.le_of_ble_eq_true rfl) (fun X hC => ?_)
  show hm_U X 0 [(0, .ref v0)] [] M _
  unfold f_Reader_readPane at hF
  refine jv_aload_n hC 0 dX5_readPane_0 rfl ?_
  obtain ⟨g1, hF⟩ := hg_some hF
  obtain ⟨g2, hF⟩ := hg_some hF
  refine jv_getR hC fl_X5_21 dX5_readPane_1 rfl g1 g2 ?_
  obtain ⟨g3, hF⟩ := hg_some hF
  refine jv_getI hC fl_X5_118 dX5_readPane_4 rfl g3 ?_
  obtain ⟨x4, e5, hF⟩ := hl_some hF
  refine jv_topI e5 ?_
  refine jv_istore_n hC [(1, .int x4), (0, .ref v0)] dX5_readPane_7 (by decide) rfl ?_
  refine jv_iload_n hC 0 dX5_readPane_8 rfl ?_
  refine jv_bipush hC dX5_readPane_9 c8_12 ?_
  refine jv_icmp_lt hC 16 dX5_readPane_11 (by decide) (fun h6 => ?_) (fun h6 => ?_)
  · have hF := hi_pos h6 hF
    refine jv_aload_n hC 1 dX5_readPane_16 rfl ?_
    obtain ⟨g7, hF⟩ := hg_some hF
    refine jv_getR hC fl_X5_12 dX5_readPane_17 rfl g1 g7 ?_
    obtain ⟨g8, hF⟩ := hg_some hF
    obtain ⟨M10, c9, hF⟩ := hv_some hF
    refine jv_callV hC (st := []) [] (k_Tape_next c9) mm_Tape_next mi_Tape_next ml_X5_89 dX5_readPane_20 g8 rfl (Nat.le_of_ble_eq_true rfl) rfl rfl (Nat.le_of_ble_eq_true rfl) ?_
    refine jv_nf 23 [] rfl rfl ?_
    refine jv_aload_n hC 1 dX5_readPane_23 rfl ?_
    refine jv_iconst hC dX5_readPane_24 c32_0 ?_
    refine jv_bipush hC dX5_readPane_25 c8_7 ?_
    obtain ⟨r13, M12, c11, hF⟩ := hb_some hF
    refine jv_callV hC (st := []) [.int (0 : Int32), .int (7 : Int32)] (k_Reader_takeNumber c11) mm_Reader_takeNumber mi_Reader_takeNumber ml_X5_72 dX5_readPane_27 g1 rfl (Nat.le_of_ble_eq_true rfl) rfl rfl (Nat.le_of_ble_eq_true rfl) ?_
    refine jv_nf 30 [.int r13] rfl rfl ?_
    refine jv_istore_n hC [(2, .int r13), (1, .int x4), (0, .ref v0)] dX5_readPane_30 (by decide) rfl ?_
    refine jv_iload_n hC 0 dX5_readPane_31 rfl ?_
    refine jv_if_ne hC 70 dX5_readPane_32 (by decide) (fun h14 => ?_) (fun h14 => ?_)
    · have hF := hi_neg h14 hF
      refine jv_sub [2, 1, 0] (ls' := [(0, .ref v0), (1, .int x4), (2, .int r13)]) rfl ?_
      exact jv_pc 70 rfl (s_Reader_readPane_2 hC hF)
    · have hF := hi_pos h14 hF
      refine jv_aload_n hC 2 dX5_readPane_35 rfl ?_
      obtain ⟨g15, hF⟩ := hg_some hF
      refine jv_getR hC fl_X5_21 dX5_readPane_36 rfl g1 g15 ?_
      obtain ⟨g16, hF⟩ := hg_some hF
      obtain ⟨g17, hF⟩ := hg_some hF
      refine jv_getR hC fl_X5_121 dX5_readPane_39 rfl g16 g17 ?_
      refine jv_iload_n hC 1 dX5_readPane_42 rfl ?_
      refine jv_aload_n hC 2 dX5_readPane_43 rfl ?_
      refine jv_getI hC fl_X5_29 dX5_readPane_44 rfl g1 ?_
      obtain ⟨g18, hF⟩ := hg_some hF
      obtain ⟨n19, sn19, in19⟩ := hm_ib_ok g18
      refine jv_iastore hC dX5_readPane_47 sn19 in19 ?_
      obtain ⟨M20, e21, hF⟩ := hl_some hF
      refine jv_mem e21 ?_
      refine jv_pc 48 rfl ?_
      refine jv_aload_n hC 2 dX5_readPane_48 rfl ?_
      refine jv_aload_n hC 2 dX5_readPane_49 rfl ?_
      refine jv_getI hC fl_X5_29 dX5_readPane_50 rfl g1 ?_
      obtain ⟨r24, M23, c22, hF⟩ := hb_some hF
      refine jv_callV hC (st := []) [.int (M20.1 v0 3)] (k_Reader_isRowOfPane c22) mm_Reader_isRowOfPane mi_Reader_isRowOfPane ml_X5_124 dX5_readPane_53 g1 rfl (Nat.le_of_ble_eq_true rfl) rfl rfl (Nat.le_of_ble_eq_true rfl) ?_
      refine jv_nf 56 [.int r24] rfl rfl ?_
      refine jv_if_eq hC 63 dX5_readPane_56 (by decide) (fun h25 => ?_) (fun h25 => ?_)
      · have hF := hi_pos h25 hF
        refine jv_aload_n hC 2 dX5_readPane_63 rfl ?_
        refine jv_iconst hC dX5_readPane_64 c32_0 ?_
        refine jv_iconst hC dX5_readPane_65 c32_3 ?_
        obtain ⟨r28, M27, c26, hF⟩ := hb_some hF
        refine jv_callV hC (st := []) [.int (0 : Int32), .int (3 : Int32)] (k_Reader_takeNumber c26) mm_Reader_takeNumber mi_Reader_takeNumber ml_X5_72 dX5_readPane_66 g1 rfl (Nat.le_of_ble_eq_true rfl) rfl rfl (Nat.le_of_ble_eq_true rfl) ?_
        refine jv_nf 69 [.int r28] rfl rfl ?_
        refine jv_sub [2, 1] (ls' := [(0, .ref v0), (1, .int x4)]) rfl ?_
        exact jv_pc 69 rfl (s_Reader_readPane_1 hC hF)
      · have hF := hi_neg h25 hF
        refine jv_iconst hC dX5_readPane_59 c32_3 ?_
        refine jv_goto hC 69 dX5_readPane_60 (by decide) ?_
        refine jv_sub [2, 1] (ls' := [(0, .ref v0), (1, .int x4)]) rfl ?_
        exact jv_pc 69 rfl (s_Reader_readPane_1 hC hF)
  · have hF := hi_neg h6 hF
    refine jv_iconst hC dX5_readPane_14 c32_5 ?_
    obtain ⟨rfl, rfl⟩ := hr_some hF
    exact jv_iret hC dX5_readPane_15
set_option maxRecDepth 100000 in
set_option maxHeartbeats 4000000 in
theorem k_Laws_open {n : Nat} {S : hm_S} {v0 : Nat} {v1 : Int32} {M : hm_M} {M' : hm_M} (hF : f_Laws_open S v0 v1 M = some M') : hm_KM yX3_open cX3_open 2 none 2 n S [.ref v0, .int v1] M none M' := by
  refine hm_enter mm_Laws_open (Nat.le_of_ble_eq_true rfl) (fun X hC => ?_)
  show hm_U X 0 [(0, .ref v0), (1, .int v1)] [] M _
  unfold f_Laws_open at hF
  refine jv_iload_n hC 1 dX3_open_0 rfl ?_
  obtain ⟨r3, M2, c1, hF⟩ := hb_some hF
  refine jv_callS hC (st := []) [.int v1] (k_Laws_isLaw c1) mm_Laws_isLaw ms_Laws_isLaw ml_X3_31 dX3_open_1 (Nat.le_of_ble_eq_true rfl) rfl rfl (Nat.le_of_ble_eq_true rfl) ?_
  refine jv_nf 4 [.int r3] rfl rfl ?_
  refine jv_if_eq hC 21 dX3_open_4 (by decide) (fun h4 => ?_) (fun h4 => ?_)
  · have hF := hi_pos h4 hF
    obtain rfl := hr_somev hF
    exact jv_vret hC dX3_open_21
  · have hF := hi_neg h4 hF
    refine jv_aload_n hC 0 dX3_open_7 rfl ?_
    obtain ⟨g5, hF⟩ := hg_some hF
    obtain ⟨g6, hF⟩ := hg_some hF
    refine jv_getR hC fl_X3_19 dX3_open_8 rfl g5 g6 ?_
    refine jv_iload_n hC 1 dX3_open_11 rfl ?_
    refine jv_sipush hC dX3_open_12 c16_135 ?_
    refine jv_isub hC dX3_open_15 ?_
    refine jv_aload_n hC 0 dX3_open_16 rfl ?_
    refine jv_getI hC fl_X3_15 dX3_open_17 rfl g5 ?_
    refine jv_pc 20 rfl ?_
    obtain ⟨g7, hF⟩ := hg_some hF
    obtain ⟨n8, sn8, in8⟩ := hm_ib_ok g7
    refine jv_iastore hC dX3_open_20 sn8 in8 ?_
    obtain ⟨M9, e10, hF⟩ := hl_some hF
    refine jv_mem e10 ?_
    obtain rfl := hr_somev hF
    exact jv_vret hC dX3_open_21
set_option maxRecDepth 100000 in
set_option maxHeartbeats 4000000 in
theorem k_Laws_add {n : Nat} {S : hm_S} {v0 : Nat} {v1 : Int32} {M : hm_M} {M' : hm_M} (hF : f_Laws_add S v0 v1 M = some M') : hm_KM yX3_add cX3_add 2 none 1 n S [.ref v0, .int v1] M none M' := by
  refine hm_enter mm_Laws_add (Nat.le_of_ble_eq_true rfl) (fun X hC => ?_)
  show hm_U X 0 [(0, .ref v0), (1, .int v1)] [] M _
  unfold f_Laws_add at hF
  refine jv_aload_n hC 0 dX3_add_0 rfl ?_
  obtain ⟨g1, hF⟩ := hg_some hF
  refine jv_getI hC fl_X3_15 dX3_add_1 rfl g1 ?_
  refine jv_sipush hC dX3_add_4 c16_1000 ?_
  refine jv_icmp_ge hC 30 dX3_add_7 (by decide) (fun h2 => ?_) (fun h2 => ?_)
  · have hF := hi_pos h2 hF
    obtain rfl := hr_somev hF
    exact jv_vret hC dX3_add_30
  · have hF := hi_neg h2 hF
    refine jv_aload_n hC 0 dX3_add_10 rfl ?_
    obtain ⟨g3, hF⟩ := hg_some hF
    refine jv_getR hC fl_X3_9 dX3_add_11 rfl g1 g3 ?_
    refine jv_aload_n hC 0 dX3_add_14 rfl ?_
    refine jv_getI hC fl_X3_15 dX3_add_15 rfl g1 ?_
    refine jv_iload_n hC 1 dX3_add_18 rfl ?_
    obtain ⟨g4, hF⟩ := hg_some hF
    obtain ⟨n5, sn5, in5⟩ := hm_ib_ok g4
    refine jv_iastore hC dX3_add_19 sn5 in5 ?_
    obtain ⟨M6, e7, hF⟩ := hl_some hF
    refine jv_mem e7 ?_
    refine jv_aload_n hC 0 dX3_add_20 rfl ?_
    refine jv_pc 21 rfl ?_
    refine jv_dup hC dX3_add_21 rfl ?_
    refine jv_getI hC fl_X3_15 dX3_add_22 rfl g1 ?_
    refine jv_iconst hC dX3_add_25 c32_1 ?_
    refine jv_iadd hC dX3_add_26 ?_
    refine jv_putI hC fl_X3_15 dX3_add_27 rfl rfl rfl g1 ?_
    obtain ⟨M8, e9, hF⟩ := hl_some hF
    refine jv_mem e9 ?_
    obtain rfl := hr_somev hF
    exact jv_vret hC dX3_add_30
set_option maxRecDepth 100000 in
set_option maxHeartbeats 4000000 in
theorem t_Reader_readProduct_1 {X : hm_X} {n : Nat} {S : hm_S} {rP : Nat → Int32 → hm_M → Option (Int32 × hm_M)} {dP : Nat} (h50 : 50 ≤ dP) (hrP : ∀ (a0 : Nat) (a1 : Int32) (M : hm_M) (r : Int32) (M' : hm_M), rP a0 a1 M = some (r, M') → hm_KM yX5_readPart cX5_readPart 5 (some .int) dP n S [.ref a0, .int a1] M (some (.int r)) M') (hC : hm_C X RX5 cX5_readProduct 4 (some .int) (dP + 1) n S) {k8 : Nat → Int32 → Int32 → Int32 → hm_M → Option (Int32 × hm_M)} (hk8 : ∀ (v0 : Nat) (v1 : Int32) (v2 : Int32) (v3 : Int32)  (M : hm_M) (r : Int32) (M' : hm_M), k8 v0 v1 v2 v3 M = some (r, M') → hm_U X 8 [(0, .ref v0), (1, .int v1), (2, .int v2), (3, .int v3)] [] M (hm_Q X (some (.int r)) M')) {v0 : Nat} {v1 : Int32} {v2 : Int32} {v3 : Int32} {M : hm_M} {r : Int32} {M' : hm_M} (hF : b_Reader_readProduct_1 S rP k8 v0 v1 v2 v3 M = some (r, M')) : hm_U X 8 [(0, .ref v0), (1, .int v1), (2, .int v2), (3, .int v3)] [] M (hm_Q X (some (.int r)) M') := by
  unfold b_Reader_readProduct_1 at hF
  refine jv_iload_n hC 3 dX5_readProduct_8 rfl ?_
  refine jv_sipush hC dX5_readProduct_9 c16_1000 ?_
  refine jv_icmp_ge hC 62 dX5_readProduct_12 (by decide) (fun h1 => ?_) (fun h1 => ?_)
  · have hF := hi_pos h1 hF
    refine jv_iload_n hC 2 dX5_readProduct_62 rfl ?_
    obtain ⟨rfl, rfl⟩ := hr_some hF
    exact jv_iret hC dX5_readProduct_63
  · have hF := hi_neg h1 hF
    refine jv_iload_n hC 2 dX5_readProduct_15 rfl ?_
    refine jv_if_ne hC 62 dX5_readProduct_16 (by decide) (fun h2 => ?_) (fun h2 => ?_)
    · have hF := hi_neg h2 hF
      refine jv_iload_n hC 2 dX5_readProduct_62 rfl ?_
      obtain ⟨rfl, rfl⟩ := hr_some hF
      exact jv_iret hC dX5_readProduct_63
    · have hF := hi_pos h2 hF
      refine jv_aload_n hC 0 dX5_readProduct_19 rfl ?_
      obtain ⟨g3, hF⟩ := hg_some hF
      obtain ⟨g4, hF⟩ := hg_some hF
      refine jv_getR hC fl_X5_12 dX5_readProduct_20 rfl g3 g4 ?_
      obtain ⟨g5, hF⟩ := hg_some hF
      refine jv_getI hC fl_X5_41 dX5_readProduct_23 rfl g5 ?_
      refine jv_bipush hC dX5_readProduct_26 c8_42 ?_
      refine jv_icmp_ne hC 62 dX5_readProduct_28 (by decide) (fun h6 => ?_) (fun h6 => ?_)
      · have hF := hi_neg h6 hF
        refine jv_iload_n hC 2 dX5_readProduct_62 rfl ?_
        obtain ⟨rfl, rfl⟩ := hr_some hF
        exact jv_iret hC dX5_readProduct_63
      · have hF := hi_pos h6 hF
        refine jv_aload_n hC 0 dX5_readProduct_31 rfl ?_
        refine jv_getR hC fl_X5_12 dX5_readProduct_32 rfl g3 g4 ?_
        obtain ⟨M8, c7, hF⟩ := hv_some hF
        refine jv_callV hC (st := []) [] (k_Tape_next c7) mm_Tape_next mi_Tape_next ml_X5_89 dX5_readProduct_35 g5 rfl (by omega) rfl rfl (Nat.le_of_ble_eq_true rfl) ?_
        refine jv_nf 38 [] rfl rfl ?_
        refine jv_aload_n hC 0 dX5_readProduct_38 rfl ?_
        refine jv_iload_n hC 1 dX5_readProduct_39 rfl ?_
        obtain ⟨r11, M10, c9, hF⟩ := hb_some hF
        refine jv_callV hC (st := []) [.int v1] (hrP _ _ _ _ _ c9) mm_Reader_readPart mi_Reader_readPart ml_X5_178 dX5_readProduct_40 g3 rfl (by omega) rfl rfl (Nat.le_of_ble_eq_true rfl) ?_
        refine jv_nf 43 [.int r11] rfl rfl ?_
        refine jv_istore_n hC [(2, .int r11), (0, .ref v0), (1, .int v1), (3, .int v3)] dX5_readProduct_43 (by decide) rfl ?_
        refine jv_aload_n hC 1 dX5_readProduct_44 rfl ?_
        obtain ⟨g12, hF⟩ := hg_some hF
        refine jv_getR hC fl_X5_21 dX5_readProduct_45 rfl g3 g12 ?_
        obtain ⟨g13, hF⟩ := hg_some hF
        obtain ⟨g14, hF⟩ := hg_some hF
        refine jv_getR hC fl_X5_150 dX5_readProduct_48 rfl g13 g14 ?_
        refine jv_bipush hC dX5_readProduct_51 c8_m42 ?_
        obtain ⟨g15, hF⟩ := hg_some hF
        obtain ⟨M17, c16, hF⟩ := hv_some hF
        refine jv_callV hC (st := []) [.int (-42 : Int32)] (k_Laws_add c16) mm_Laws_add mi_Laws_add ml_X5_169 dX5_readProduct_53 g15 rfl (by omega) rfl rfl (Nat.le_of_ble_eq_true rfl) ?_
        refine jv_nf 56 [] rfl rfl ?_
        refine jv_iinc hC 3 [(3, .int (v3 + (1 : Int32))), (2, .int r11), (0, .ref v0), (1, .int v1)] dX5_readProduct_56 rfl c32_1 (by decide) rfl ?_
        refine jv_goto hC 8 dX5_readProduct_59 (by decide) ?_
        refine jv_sub [2, 3, 1, 0] (ls' := [(0, .ref v0), (1, .int v1), (2, .int r11), (3, .int (v3 + (1 : Int32)))]) rfl ?_
        exact jv_pc 8 rfl (hk8 _ _ _ _ _ _ _ hF)
theorem s_Reader_readProduct_1 {X : hm_X} {n : Nat} {S : hm_S} {rP : Nat → Int32 → hm_M → Option (Int32 × hm_M)} {dP : Nat} (h50 : 50 ≤ dP) (hrP : ∀ (a0 : Nat) (a1 : Int32) (M : hm_M) (r : Int32) (M' : hm_M), rP a0 a1 M = some (r, M') → hm_KM yX5_readPart cX5_readPart 5 (some .int) dP n S [.ref a0, .int a1] M (some (.int r)) M') (hC : hm_C X RX5 cX5_readProduct 4 (some .int) (dP + 1) n S) : ∀ (q : Nat) (v0 : Nat) (v1 : Int32) (v2 : Int32) (v3 : Int32) (M : hm_M) (r : Int32) (M' : hm_M), f_Reader_readProduct_1 S rP  q v0 v1 v2 v3 M = some (r, M') → hm_U X 8 [(0, .ref v0), (1, .int v1), (2, .int v2), (3, .int v3)] [] M (hm_Q X (some (.int r)) M') := by
  intro q
  induction q with
  | zero => intro v0 v1 v2 v3 M r M' hF; cases hF
  | succ q ih => intro v0 v1 v2 v3 M r M' hF; exact t_Reader_readProduct_1 h50 hrP hC ih hF
set_option maxRecDepth 100000 in
set_option maxHeartbeats 4000000 in
theorem k_Reader_readProduct {n : Nat} {S : hm_S} {rP : Nat → Int32 → hm_M → Option (Int32 × hm_M)} {dP : Nat} (h50 : 50 ≤ dP) (hrP : ∀ (a0 : Nat) (a1 : Int32) (M : hm_M) (r : Int32) (M' : hm_M), rP a0 a1 M = some (r, M') → hm_KM yX5_readPart cX5_readPart 5 (some .int) dP n S [.ref a0, .int a1] M (some (.int r)) M') {v0 : Nat} {v1 : Int32} {M : hm_M} {r : Int32} {M' : hm_M} (hF : f_Reader_readProduct S rP v0 v1 M = some (r, M')) : hm_KM yX5_readProduct cX5_readProduct 4 (some .int) (dP + 1) n S [.ref v0, .int v1] M (some (.int r)) M' := by
  refine hm_enter mm_Reader_readProduct (Nat.le_of_ble_eq_true rfl) (fun X hC => ?_)
  show hm_U X 0 [(0, .ref v0), (1, .int v1)] [] M _
  unfold f_Reader_readProduct at hF
  refine jv_aload_n hC 0 dX5_readProduct_0 rfl ?_
  refine jv_iload_n hC 1 dX5_readProduct_1 rfl ?_
  obtain ⟨g1, hF⟩ := hg_some hF
  obtain ⟨r4, M3, c2, hF⟩ := hb_some hF
  refine jv_callV hC (st := []) [.int v1] (hrP _ _ _ _ _ c2) mm_Reader_readPart mi_Reader_readPart ml_X5_178 dX5_readProduct_2 g1 rfl (by omega) rfl rfl (Nat.le_of_ble_eq_true rfl) ?_
  refine jv_nf 5 [.int r4] rfl rfl ?_
  refine jv_istore_n hC [(2, .int r4), (0, .ref v0), (1, .int v1)] dX5_readProduct_5 (by decide) rfl ?_
  refine jv_iconst hC dX5_readProduct_6 c32_0 ?_
  refine jv_istore_n hC [(3, .int (0 : Int32)), (2, .int r4), (0, .ref v0), (1, .int v1)] dX5_readProduct_7 (by decide) rfl ?_
  refine jv_sub [2, 3, 1, 0] (ls' := [(0, .ref v0), (1, .int v1), (2, .int r4), (3, .int (0 : Int32))]) rfl ?_
  exact jv_pc 8 rfl (s_Reader_readProduct_1 h50 hrP hC hN _ _ _ _ _ _ _ hF)
set_option maxRecDepth 100000 in
set_option maxHeartbeats 4000000 in
theorem s_Reader_readSum_2 {X : hm_X} {n : Nat} {S : hm_S} {rP : Nat → Int32 → hm_M → Option (Int32 × hm_M)} {dP : Nat} (h50 : 50 ≤ dP) (hrP : ∀ (a0 : Nat) (a1 : Int32) (M : hm_M) (r : Int32) (M' : hm_M), rP a0 a1 M = some (r, M') → hm_KM yX5_readPart cX5_readPart 5 (some .int) dP n S [.ref a0, .int a1] M (some (.int r)) M') (hC : hm_C X RX5 cX5_readSum 5 (some .int) (dP + 2) n S) {k8 : Nat → Int32 → Int32 → Int32 → hm_M → Option (Int32 × hm_M)} (hk8 : ∀ (v0 : Nat) (v1 : Int32) (v2 : Int32) (v3 : Int32)  (M : hm_M) (r : Int32) (M' : hm_M), k8 v0 v1 v2 v3 M = some (r, M') → hm_U X 8 [(0, .ref v0), (1, .int v1), (2, .int v2), (3, .int v3)] [] M (hm_Q X (some (.int r)) M')) {v0 : Nat} {v1 : Int32} {v3 : Int32} {M : hm_M} {r : Int32} {M' : hm_M} (hF : b_Reader_readSum_2 S rP k8 v0 v1 v3 M = some (r, M')) : hm_U X 43 [(0, .ref v0), (1, .int v1), (3, .int v3)] [] M (hm_Q X (some (.int r)) M') := by
  unfold b_Reader_readSum_2 at hF
  refine jv_aload_n hC 0 dX5_readSum_43 rfl ?_
  obtain ⟨g1, hF⟩ := hg_some hF
  obtain ⟨g2, hF⟩ := hg_some hF
  refine jv_getR hC fl_X5_12 dX5_readSum_44 rfl g1 g2 ?_
  obtain ⟨g3, hF⟩ := hg_some hF
  refine jv_getI hC fl_X5_41 dX5_readSum_47 rfl g3 ?_
  obtain ⟨x4, e5, hF⟩ := hl_some hF
  refine jv_topI e5 ?_
  refine jv_istore hC [(4, .int x4), (0, .ref v0), (1, .int v1), (3, .int v3)] dX5_readSum_50 (by decide) rfl ?_
  refine jv_aload_n hC 1 dX5_readSum_52 rfl ?_
  refine jv_getR hC fl_X5_12 dX5_readSum_53 rfl g1 g2 ?_
  obtain ⟨M7, c6, hF⟩ := hv_some hF
  refine jv_callV hC (st := []) [] (k_Tape_next c6) mm_Tape_next mi_Tape_next ml_X5_89 dX5_readSum_56 g3 rfl (by omega) rfl rfl (Nat.le_of_ble_eq_true rfl) ?_
  refine jv_nf 59 [] rfl rfl ?_
  refine jv_aload_n hC 1 dX5_readSum_59 rfl ?_
  refine jv_iload_n hC 2 dX5_readSum_60 rfl ?_
  obtain ⟨r10, M9, c8, hF⟩ := hb_some hF
  refine jv_callV hC (st := []) [.int v1] (k_Reader_readProduct h50 hrP c8) mm_Reader_readProduct mi_Reader_readProduct ml_X5_175 dX5_readSum_61 g1 rfl (by omega) rfl rfl (Nat.le_of_ble_eq_true rfl) ?_
  refine jv_nf 64 [.int r10] rfl rfl ?_
  refine jv_istore_n hC [(2, .int r10), (4, .int x4), (0, .ref v0), (1, .int v1), (3, .int v3)] dX5_readSum_64 (by decide) rfl ?_
  refine jv_aload_n hC 2 dX5_readSum_65 rfl ?_
  obtain ⟨g11, hF⟩ := hg_some hF
  refine jv_getR hC fl_X5_21 dX5_readSum_66 rfl g1 g11 ?_
  obtain ⟨g12, hF⟩ := hg_some hF
  obtain ⟨g13, hF⟩ := hg_some hF
  refine jv_getR hC fl_X5_150 dX5_readSum_69 rfl g12 g13 ?_
  refine jv_iload hC 1 dX5_readSum_72 rfl ?_
  refine jv_ineg hC dX5_readSum_74 ?_
  obtain ⟨g14, hF⟩ := hg_some hF
  obtain ⟨M16, c15, hF⟩ := hv_some hF
  refine jv_callV hC (st := []) [.int (-x4)] (k_Laws_add c15) mm_Laws_add mi_Laws_add ml_X5_169 dX5_readSum_75 g14 rfl (by omega) rfl rfl (Nat.le_of_ble_eq_true rfl) ?_
  refine jv_nf 78 [] rfl rfl ?_
  refine jv_iinc hC 4 [(3, .int (v3 + (1 : Int32))), (2, .int r10), (4, .int x4), (0, .ref v0), (1, .int v1)] dX5_readSum_78 rfl c32_1 (by decide) rfl ?_
  refine jv_goto hC 8 dX5_readSum_81 (by decide) ?_
  refine jv_sub [3, 4, 1, 0] (ls' := [(0, .ref v0), (1, .int v1), (2, .int r10), (3, .int (v3 + (1 : Int32)))]) rfl ?_
  exact jv_pc 8 rfl (hk8 _ _ _ _ _ _ _ hF)
set_option maxRecDepth 100000 in
set_option maxHeartbeats 4000000 in
theorem t_Reader_readSum_1 {X : hm_X} {n : Nat} {S : hm_S} {rP : Nat → Int32 → hm_M → Option (Int32 × hm_M)} {dP : Nat} (h50 : 50 ≤ dP) (hrP : ∀ (a0 : Nat) (a1 : Int32) (M : hm_M) (r : Int32) (M' : hm_M), rP a0 a1 M = some (r, M') → hm_KM yX5_readPart cX5_readPart 5 (some .int) dP n S [.ref a0, .int a1] M (some (.int r)) M') (hC : hm_C X RX5 cX5_readSum 5 (some .int) (dP + 2) n S) {k8 : Nat → Int32 → Int32 → Int32 → hm_M → Option (Int32 × hm_M)} (hk8 : ∀ (v0 : Nat) (v1 : Int32) (v2 : Int32) (v3 : Int32)  (M : hm_M) (r : Int32) (M' : hm_M), k8 v0 v1 v2 v3 M = some (r, M') → hm_U X 8 [(0, .ref v0), (1, .int v1), (2, .int v2), (3, .int v3)] [] M (hm_Q X (some (.int r)) M')) {v0 : Nat} {v1 : Int32} {v2 : Int32} {v3 : Int32} {M : hm_M} {r : Int32} {M' : hm_M} (hF : b_Reader_readSum_1 S rP k8 v0 v1 v2 v3 M = some (r, M')) : hm_U X 8 [(0, .ref v0), (1, .int v1), (2, .int v2), (3, .int v3)] [] M (hm_Q X (some (.int r)) M') := by
  unfold b_Reader_readSum_1 at hF
  refine jv_iload_n hC 3 dX5_readSum_8 rfl ?_
  refine jv_sipush hC dX5_readSum_9 c16_1000 ?_
  refine jv_icmp_ge hC 84 dX5_readSum_12 (by decide) (fun h1 => ?_) (fun h1 => ?_)
  · have hF := hi_pos h1 hF
    refine jv_iload_n hC 2 dX5_readSum_84 rfl ?_
    obtain ⟨rfl, rfl⟩ := hr_some hF
    exact jv_iret hC dX5_readSum_85
  · have hF := hi_neg h1 hF
    refine jv_iload_n hC 2 dX5_readSum_15 rfl ?_
    refine jv_if_ne hC 84 dX5_readSum_16 (by decide) (fun h2 => ?_) (fun h2 => ?_)
    · have hF := hi_neg h2 hF
      refine jv_iload_n hC 2 dX5_readSum_84 rfl ?_
      obtain ⟨rfl, rfl⟩ := hr_some hF
      exact jv_iret hC dX5_readSum_85
    · have hF := hi_pos h2 hF
      refine jv_aload_n hC 0 dX5_readSum_19 rfl ?_
      obtain ⟨g3, hF⟩ := hg_some hF
      obtain ⟨g4, hF⟩ := hg_some hF
      refine jv_getR hC fl_X5_12 dX5_readSum_20 rfl g3 g4 ?_
      obtain ⟨g5, hF⟩ := hg_some hF
      refine jv_getI hC fl_X5_41 dX5_readSum_23 rfl g5 ?_
      refine jv_bipush hC dX5_readSum_26 c8_43 ?_
      refine jv_icmp_eq hC 43 dX5_readSum_28 (by decide) (fun h6 => ?_) (fun h6 => ?_)
      · have hF := hi_pos h6 hF
        refine jv_sub [0, 1, 3] (ls' := [(0, .ref v0), (1, .int v1), (3, .int v3)]) rfl ?_
        exact jv_pc 43 rfl (s_Reader_readSum_2 h50 hrP hC hk8 hF)
      · have hF := hi_neg h6 hF
        refine jv_aload_n hC 0 dX5_readSum_31 rfl ?_
        refine jv_getR hC fl_X5_12 dX5_readSum_32 rfl g3 g4 ?_
        refine jv_getI hC fl_X5_41 dX5_readSum_35 rfl g5 ?_
        refine jv_bipush hC dX5_readSum_38 c8_45 ?_
        refine jv_icmp_ne hC 84 dX5_readSum_40 (by decide) (fun h7 => ?_) (fun h7 => ?_)
        · have hF := hi_neg h7 hF
          refine jv_iload_n hC 2 dX5_readSum_84 rfl ?_
          obtain ⟨rfl, rfl⟩ := hr_some hF
          exact jv_iret hC dX5_readSum_85
        · have hF := hi_pos h7 hF
          refine jv_sub [0, 1, 3] (ls' := [(0, .ref v0), (1, .int v1), (3, .int v3)]) rfl ?_
          exact jv_pc 43 rfl (s_Reader_readSum_2 h50 hrP hC hk8 hF)
theorem s_Reader_readSum_1 {X : hm_X} {n : Nat} {S : hm_S} {rP : Nat → Int32 → hm_M → Option (Int32 × hm_M)} {dP : Nat} (h50 : 50 ≤ dP) (hrP : ∀ (a0 : Nat) (a1 : Int32) (M : hm_M) (r : Int32) (M' : hm_M), rP a0 a1 M = some (r, M') → hm_KM yX5_readPart cX5_readPart 5 (some .int) dP n S [.ref a0, .int a1] M (some (.int r)) M') (hC : hm_C X RX5 cX5_readSum 5 (some .int) (dP + 2) n S) : ∀ (q : Nat) (v0 : Nat) (v1 : Int32) (v2 : Int32) (v3 : Int32) (M : hm_M) (r : Int32) (M' : hm_M), f_Reader_readSum_1 S rP  q v0 v1 v2 v3 M = some (r, M') → hm_U X 8 [(0, .ref v0), (1, .int v1), (2, .int v2), (3, .int v3)] [] M (hm_Q X (some (.int r)) M') := by
  intro q
  induction q with
  | zero => intro v0 v1 v2 v3 M r M' hF; cases hF
  | succ q ih => intro v0 v1 v2 v3 M r M' hF; exact t_Reader_readSum_1 h50 hrP hC ih hF
set_option maxRecDepth 100000 in
set_option maxHeartbeats 4000000 in
theorem k_Reader_readSum {n : Nat} {S : hm_S} {rP : Nat → Int32 → hm_M → Option (Int32 × hm_M)} {dP : Nat} (h50 : 50 ≤ dP) (hrP : ∀ (a0 : Nat) (a1 : Int32) (M : hm_M) (r : Int32) (M' : hm_M), rP a0 a1 M = some (r, M') → hm_KM yX5_readPart cX5_readPart 5 (some .int) dP n S [.ref a0, .int a1] M (some (.int r)) M') {v0 : Nat} {v1 : Int32} {M : hm_M} {r : Int32} {M' : hm_M} (hF : f_Reader_readSum S rP v0 v1 M = some (r, M')) : hm_KM yX5_readSum cX5_readSum 5 (some .int) (dP + 2) n S [.ref v0, .int v1] M (some (.int r)) M' := by
  refine hm_enter mm_Reader_readSum (Nat.le_of_ble_eq_true rfl) (fun X hC => ?_)
  show hm_U X 0 [(0, .ref v0), (1, .int v1)] [] M _
  unfold f_Reader_readSum at hF
  refine jv_aload_n hC 0 dX5_readSum_0 rfl ?_
  refine jv_iload_n hC 1 dX5_readSum_1 rfl ?_
  obtain ⟨g1, hF⟩ := hg_some hF
  obtain ⟨r4, M3, c2, hF⟩ := hb_some hF
  refine jv_callV hC (st := []) [.int v1] (k_Reader_readProduct h50 hrP c2) mm_Reader_readProduct mi_Reader_readProduct ml_X5_175 dX5_readSum_2 g1 rfl (by omega) rfl rfl (Nat.le_of_ble_eq_true rfl) ?_
  refine jv_nf 5 [.int r4] rfl rfl ?_
  refine jv_istore_n hC [(2, .int r4), (0, .ref v0), (1, .int v1)] dX5_readSum_5 (by decide) rfl ?_
  refine jv_iconst hC dX5_readSum_6 c32_0 ?_
  refine jv_istore_n hC [(3, .int (0 : Int32)), (2, .int r4), (0, .ref v0), (1, .int v1)] dX5_readSum_7 (by decide) rfl ?_
  refine jv_sub [2, 3, 1, 0] (ls' := [(0, .ref v0), (1, .int v1), (2, .int r4), (3, .int (0 : Int32))]) rfl ?_
  exact jv_pc 8 rfl (s_Reader_readSum_1 h50 hrP hC hN _ _ _ _ _ _ _ hF)
set_option maxRecDepth 100000 in
set_option maxHeartbeats 4000000 in
theorem s_Reader_readTest_1 {X : hm_X} {n : Nat} {S : hm_S} {rP : Nat → Int32 → hm_M → Option (Int32 × hm_M)} {dP : Nat} (h50 : 50 ≤ dP) (hrP : ∀ (a0 : Nat) (a1 : Int32) (M : hm_M) (r : Int32) (M' : hm_M), rP a0 a1 M = some (r, M') → hm_KM yX5_readPart cX5_readPart 5 (some .int) dP n S [.ref a0, .int a1] M (some (.int r)) M') (hC : hm_C X RX5 cX5_readTest 4 (some .int) (dP + 3) n S) {v0 : Nat} {v1 : Int32} {M : hm_M} {r : Int32} {M' : hm_M} (hF : b_Reader_readTest_1 S rP v0 v1 M = some (r, M')) : hm_U X 34 [(0, .ref v0), (1, .int v1)] [] M (hm_Q X (some (.int r)) M') := by
  unfold b_Reader_readTest_1 at hF
  refine jv_aload_n hC 0 dX5_readTest_34 rfl ?_
  obtain ⟨g1, hF⟩ := hg_some hF
  obtain ⟨g2, hF⟩ := hg_some hF
  refine jv_getR hC fl_X5_12 dX5_readTest_35 rfl g1 g2 ?_
  obtain ⟨g3, hF⟩ := hg_some hF
  refine jv_getI hC fl_X5_41 dX5_readTest_38 rfl g3 ?_
  obtain ⟨x4, e5, hF⟩ := hl_some hF
  refine jv_topI e5 ?_
  refine jv_istore_n hC [(3, .int x4), (0, .ref v0), (1, .int v1)] dX5_readTest_41 (by decide) rfl ?_
  refine jv_aload_n hC 1 dX5_readTest_42 rfl ?_
  refine jv_getR hC fl_X5_12 dX5_readTest_43 rfl g1 g2 ?_
  obtain ⟨M7, c6, hF⟩ := hv_some hF
  refine jv_callV hC (st := []) [] (k_Tape_next c6) mm_Tape_next mi_Tape_next ml_X5_89 dX5_readTest_46 g3 rfl (by omega) rfl rfl (Nat.le_of_ble_eq_true rfl) ?_
  refine jv_nf 49 [] rfl rfl ?_
  refine jv_aload_n hC 1 dX5_readTest_49 rfl ?_
  refine jv_iload_n hC 2 dX5_readTest_50 rfl ?_
  obtain ⟨r10, M9, c8, hF⟩ := hb_some hF
  refine jv_callV hC (st := []) [.int v1] (k_Reader_readSum h50 hrP c8) mm_Reader_readSum mi_Reader_readSum ml_X5_172 dX5_readTest_51 g1 rfl (by omega) rfl rfl (Nat.le_of_ble_eq_true rfl) ?_
  refine jv_nf 54 [.int r10] rfl rfl ?_
  refine jv_istore_n hC [(2, .int r10), (3, .int x4), (0, .ref v0), (1, .int v1)] dX5_readTest_54 (by decide) rfl ?_
  refine jv_aload_n hC 2 dX5_readTest_55 rfl ?_
  obtain ⟨g11, hF⟩ := hg_some hF
  refine jv_getR hC fl_X5_21 dX5_readTest_56 rfl g1 g11 ?_
  obtain ⟨g12, hF⟩ := hg_some hF
  obtain ⟨g13, hF⟩ := hg_some hF
  refine jv_getR hC fl_X5_150 dX5_readTest_59 rfl g12 g13 ?_
  refine jv_iload_n hC 1 dX5_readTest_62 rfl ?_
  refine jv_ineg hC dX5_readTest_63 ?_
  obtain ⟨g14, hF⟩ := hg_some hF
  obtain ⟨M16, c15, hF⟩ := hv_some hF
  refine jv_callV hC (st := []) [.int (-x4)] (k_Laws_add c15) mm_Laws_add mi_Laws_add ml_X5_169 dX5_readTest_64 g14 rfl (by omega) rfl rfl (Nat.le_of_ble_eq_true rfl) ?_
  refine jv_nf 67 [] rfl rfl ?_
  refine jv_iload_n hC 0 dX5_readTest_67 rfl ?_
  obtain ⟨rfl, rfl⟩ := hr_some hF
  exact jv_iret hC dX5_readTest_68
set_option maxRecDepth 100000 in
set_option maxHeartbeats 4000000 in
theorem k_Reader_readTest {n : Nat} {S : hm_S} {rP : Nat → Int32 → hm_M → Option (Int32 × hm_M)} {dP : Nat} (h50 : 50 ≤ dP) (hrP : ∀ (a0 : Nat) (a1 : Int32) (M : hm_M) (r : Int32) (M' : hm_M), rP a0 a1 M = some (r, M') → hm_KM yX5_readPart cX5_readPart 5 (some .int) dP n S [.ref a0, .int a1] M (some (.int r)) M') {v0 : Nat} {v1 : Int32} {M : hm_M} {r : Int32} {M' : hm_M} (hF : f_Reader_readTest S rP v0 v1 M = some (r, M')) : hm_KM yX5_readTest cX5_readTest 4 (some .int) (dP + 3) n S [.ref v0, .int v1] M (some (.int r)) M' := by
  refine hm_enter mm_Reader_readTest (Nat.le_of_ble_eq_true rfl) (fun X hC => ?_)
  show hm_U X 0 [(0, .ref v0), (1, .int v1)] [] M _
  unfold f_Reader_readTest at hF
  refine jv_aload_n hC 0 dX5_readTest_0 rfl ?_
  refine jv_iload_n hC 1 dX5_readTest_1 rfl ?_
  obtain ⟨g1, hF⟩ := hg_some hF
  obtain ⟨r4, M3, c2, hF⟩ := hb_some hF
  refine jv_callV hC (st := []) [.int v1] (k_Reader_readSum h50 hrP c2) mm_Reader_readSum mi_Reader_readSum ml_X5_172 dX5_readTest_2 g1 rfl (by omega) rfl rfl (Nat.le_of_ble_eq_true rfl) ?_
  refine jv_nf 5 [.int r4] rfl rfl ?_
  refine jv_istore_n hC [(2, .int r4), (0, .ref v0), (1, .int v1)] dX5_readTest_5 (by decide) rfl ?_
  refine jv_iload_n hC 0 dX5_readTest_6 rfl ?_
  refine jv_if_ne hC 67 dX5_readTest_7 (by decide) (fun h5 => ?_) (fun h5 => ?_)
  · have hF := hi_neg h5 hF
    refine jv_iload_n hC 0 dX5_readTest_67 rfl ?_
    obtain ⟨rfl, rfl⟩ := hr_some hF
    exact jv_iret hC dX5_readTest_68
  · have hF := hi_pos h5 hF
    refine jv_aload_n hC 1 dX5_readTest_10 rfl ?_
    obtain ⟨g6, hF⟩ := hg_some hF
    refine jv_getR hC fl_X5_12 dX5_readTest_11 rfl g1 g6 ?_
    obtain ⟨g7, hF⟩ := hg_some hF
    refine jv_getI hC fl_X5_41 dX5_readTest_14 rfl g7 ?_
    refine jv_bipush hC dX5_readTest_17 c8_60 ?_
    refine jv_icmp_eq hC 34 dX5_readTest_19 (by decide) (fun h8 => ?_) (fun h8 => ?_)
    · have hF := hi_pos h8 hF
      refine jv_sub [1, 2] (ls' := [(0, .ref v0), (1, .int v1)]) rfl ?_
      exact jv_pc 34 rfl (s_Reader_readTest_1 h50 hrP hC hF)
    · have hF := hi_neg h8 hF
      refine jv_aload_n hC 1 dX5_readTest_22 rfl ?_
      refine jv_getR hC fl_X5_12 dX5_readTest_23 rfl g1 g6 ?_
      refine jv_getI hC fl_X5_41 dX5_readTest_26 rfl g7 ?_
      refine jv_bipush hC dX5_readTest_29 c8_61 ?_
      refine jv_icmp_ne hC 67 dX5_readTest_31 (by decide) (fun h9 => ?_) (fun h9 => ?_)
      · have hF := hi_neg h9 hF
        refine jv_iload_n hC 0 dX5_readTest_67 rfl ?_
        obtain ⟨rfl, rfl⟩ := hr_some hF
        exact jv_iret hC dX5_readTest_68
      · have hF := hi_pos h9 hF
        refine jv_sub [1, 2] (ls' := [(0, .ref v0), (1, .int v1)]) rfl ?_
        exact jv_pc 34 rfl (s_Reader_readTest_1 h50 hrP hC hF)
set_option maxRecDepth 100000 in
set_option maxHeartbeats 4000000 in
theorem s_Reader_readE_2 {X : hm_X} {n : Nat} {S : hm_S} {rP : Nat → Int32 → hm_M → Option (Int32 × hm_M)} {dP : Nat} (h50 : 50 ≤ dP) (hrP : ∀ (a0 : Nat) (a1 : Int32) (M : hm_M) (r : Int32) (M' : hm_M), rP a0 a1 M = some (r, M') → hm_KM yX5_readPart cX5_readPart 5 (some .int) dP n S [.ref a0, .int a1] M (some (.int r)) M') (hC : hm_C X RX5 cX5_readE 5 (some .int) (dP + 4) n S) {k8 : Nat → Int32 → Int32 → Int32 → hm_M → Option (Int32 × hm_M)} (hk8 : ∀ (v0 : Nat) (v1 : Int32) (v2 : Int32) (v3 : Int32)  (M : hm_M) (r : Int32) (M' : hm_M), k8 v0 v1 v2 v3 M = some (r, M') → hm_U X 8 [(0, .ref v0), (1, .int v1), (2, .int v2), (3, .int v3)] [] M (hm_Q X (some (.int r)) M')) {v0 : Nat} {v1 : Int32} {v3 : Int32} {M : hm_M} {r : Int32} {M' : hm_M} (hF : b_Reader_readE_2 S rP k8 v0 v1 v3 M = some (r, M')) : hm_U X 45 [(0, .ref v0), (1, .int v1), (3, .int v3)] [] M (hm_Q X (some (.int r)) M') := by
  unfold b_Reader_readE_2 at hF
  refine jv_aload_n hC 0 dX5_readE_45 rfl ?_
  obtain ⟨g1, hF⟩ := hg_some hF
  obtain ⟨g2, hF⟩ := hg_some hF
  refine jv_getR hC fl_X5_12 dX5_readE_46 rfl g1 g2 ?_
  obtain ⟨g3, hF⟩ := hg_some hF
  refine jv_getI hC fl_X5_41 dX5_readE_49 rfl g3 ?_
  obtain ⟨x4, e5, hF⟩ := hl_some hF
  refine jv_topI e5 ?_
  refine jv_istore hC [(4, .int x4), (0, .ref v0), (1, .int v1), (3, .int v3)] dX5_readE_52 (by decide) rfl ?_
  refine jv_aload_n hC 1 dX5_readE_54 rfl ?_
  refine jv_getR hC fl_X5_12 dX5_readE_55 rfl g1 g2 ?_
  obtain ⟨M7, c6, hF⟩ := hv_some hF
  refine jv_callV hC (st := []) [] (k_Tape_next c6) mm_Tape_next mi_Tape_next ml_X5_89 dX5_readE_58 g3 rfl (by omega) rfl rfl (Nat.le_of_ble_eq_true rfl) ?_
  refine jv_nf 61 [] rfl rfl ?_
  refine jv_aload_n hC 1 dX5_readE_61 rfl ?_
  refine jv_iload_n hC 2 dX5_readE_62 rfl ?_
  obtain ⟨r10, M9, c8, hF⟩ := hb_some hF
  refine jv_callV hC (st := []) [.int v1] (k_Reader_readTest h50 hrP c8) mm_Reader_readTest mi_Reader_readTest ml_X5_166 dX5_readE_63 g1 rfl (by omega) rfl rfl (Nat.le_of_ble_eq_true rfl) ?_
  refine jv_nf 66 [.int r10] rfl rfl ?_
  refine jv_istore_n hC [(2, .int r10), (4, .int x4), (0, .ref v0), (1, .int v1), (3, .int v3)] dX5_readE_66 (by decide) rfl ?_
  refine jv_aload_n hC 2 dX5_readE_67 rfl ?_
  obtain ⟨g11, hF⟩ := hg_some hF
  refine jv_getR hC fl_X5_21 dX5_readE_68 rfl g1 g11 ?_
  obtain ⟨g12, hF⟩ := hg_some hF
  obtain ⟨g13, hF⟩ := hg_some hF
  refine jv_getR hC fl_X5_150 dX5_readE_71 rfl g12 g13 ?_
  refine jv_iload hC 1 dX5_readE_74 rfl ?_
  refine jv_ineg hC dX5_readE_76 ?_
  obtain ⟨g14, hF⟩ := hg_some hF
  obtain ⟨M16, c15, hF⟩ := hv_some hF
  refine jv_callV hC (st := []) [.int (-x4)] (k_Laws_add c15) mm_Laws_add mi_Laws_add ml_X5_169 dX5_readE_77 g14 rfl (by omega) rfl rfl (Nat.le_of_ble_eq_true rfl) ?_
  refine jv_nf 80 [] rfl rfl ?_
  refine jv_iinc hC 4 [(3, .int (v3 + (1 : Int32))), (2, .int r10), (4, .int x4), (0, .ref v0), (1, .int v1)] dX5_readE_80 rfl c32_1 (by decide) rfl ?_
  refine jv_goto hC 8 dX5_readE_83 (by decide) ?_
  refine jv_sub [3, 4, 1, 0] (ls' := [(0, .ref v0), (1, .int v1), (2, .int r10), (3, .int (v3 + (1 : Int32)))]) rfl ?_
  exact jv_pc 8 rfl (hk8 _ _ _ _ _ _ _ hF)
set_option maxRecDepth 100000 in
set_option maxHeartbeats 4000000 in
theorem t_Reader_readE_1 {X : hm_X} {n : Nat} {S : hm_S} {rP : Nat → Int32 → hm_M → Option (Int32 × hm_M)} {dP : Nat} (h50 : 50 ≤ dP) (hrP : ∀ (a0 : Nat) (a1 : Int32) (M : hm_M) (r : Int32) (M' : hm_M), rP a0 a1 M = some (r, M') → hm_KM yX5_readPart cX5_readPart 5 (some .int) dP n S [.ref a0, .int a1] M (some (.int r)) M') (hC : hm_C X RX5 cX5_readE 5 (some .int) (dP + 4) n S) {k8 : Nat → Int32 → Int32 → Int32 → hm_M → Option (Int32 × hm_M)} (hk8 : ∀ (v0 : Nat) (v1 : Int32) (v2 : Int32) (v3 : Int32)  (M : hm_M) (r : Int32) (M' : hm_M), k8 v0 v1 v2 v3 M = some (r, M') → hm_U X 8 [(0, .ref v0), (1, .int v1), (2, .int v2), (3, .int v3)] [] M (hm_Q X (some (.int r)) M')) {v0 : Nat} {v1 : Int32} {v2 : Int32} {v3 : Int32} {M : hm_M} {r : Int32} {M' : hm_M} (hF : b_Reader_readE_1 S rP k8 v0 v1 v2 v3 M = some (r, M')) : hm_U X 8 [(0, .ref v0), (1, .int v1), (2, .int v2), (3, .int v3)] [] M (hm_Q X (some (.int r)) M') := by
  unfold b_Reader_readE_1 at hF
  refine jv_iload_n hC 3 dX5_readE_8 rfl ?_
  refine jv_sipush hC dX5_readE_9 c16_1000 ?_
  refine jv_icmp_ge hC 86 dX5_readE_12 (by decide) (fun h1 => ?_) (fun h1 => ?_)
  · have hF := hi_pos h1 hF
    refine jv_iload_n hC 2 dX5_readE_86 rfl ?_
    obtain ⟨rfl, rfl⟩ := hr_some hF
    exact jv_iret hC dX5_readE_87
  · have hF := hi_neg h1 hF
    refine jv_iload_n hC 2 dX5_readE_15 rfl ?_
    refine jv_if_ne hC 86 dX5_readE_16 (by decide) (fun h2 => ?_) (fun h2 => ?_)
    · have hF := hi_neg h2 hF
      refine jv_iload_n hC 2 dX5_readE_86 rfl ?_
      obtain ⟨rfl, rfl⟩ := hr_some hF
      exact jv_iret hC dX5_readE_87
    · have hF := hi_pos h2 hF
      refine jv_aload_n hC 0 dX5_readE_19 rfl ?_
      obtain ⟨g3, hF⟩ := hg_some hF
      obtain ⟨g4, hF⟩ := hg_some hF
      refine jv_getR hC fl_X5_12 dX5_readE_20 rfl g3 g4 ?_
      obtain ⟨g5, hF⟩ := hg_some hF
      refine jv_getI hC fl_X5_41 dX5_readE_23 rfl g5 ?_
      refine jv_sipush hC dX5_readE_26 c16_141 ?_
      refine jv_icmp_eq hC 45 dX5_readE_29 (by decide) (fun h6 => ?_) (fun h6 => ?_)
      · have hF := hi_pos h6 hF
        refine jv_sub [0, 1, 3] (ls' := [(0, .ref v0), (1, .int v1), (3, .int v3)]) rfl ?_
        exact jv_pc 45 rfl (s_Reader_readE_2 h50 hrP hC hk8 hF)
      · have hF := hi_neg h6 hF
        refine jv_aload_n hC 0 dX5_readE_32 rfl ?_
        refine jv_getR hC fl_X5_12 dX5_readE_33 rfl g3 g4 ?_
        refine jv_getI hC fl_X5_41 dX5_readE_36 rfl g5 ?_
        refine jv_sipush hC dX5_readE_39 c16_142 ?_
        refine jv_icmp_ne hC 86 dX5_readE_42 (by decide) (fun h7 => ?_) (fun h7 => ?_)
        · have hF := hi_neg h7 hF
          refine jv_iload_n hC 2 dX5_readE_86 rfl ?_
          obtain ⟨rfl, rfl⟩ := hr_some hF
          exact jv_iret hC dX5_readE_87
        · have hF := hi_pos h7 hF
          refine jv_sub [0, 1, 3] (ls' := [(0, .ref v0), (1, .int v1), (3, .int v3)]) rfl ?_
          exact jv_pc 45 rfl (s_Reader_readE_2 h50 hrP hC hk8 hF)
theorem s_Reader_readE_1 {X : hm_X} {n : Nat} {S : hm_S} {rP : Nat → Int32 → hm_M → Option (Int32 × hm_M)} {dP : Nat} (h50 : 50 ≤ dP) (hrP : ∀ (a0 : Nat) (a1 : Int32) (M : hm_M) (r : Int32) (M' : hm_M), rP a0 a1 M = some (r, M') → hm_KM yX5_readPart cX5_readPart 5 (some .int) dP n S [.ref a0, .int a1] M (some (.int r)) M') (hC : hm_C X RX5 cX5_readE 5 (some .int) (dP + 4) n S) : ∀ (q : Nat) (v0 : Nat) (v1 : Int32) (v2 : Int32) (v3 : Int32) (M : hm_M) (r : Int32) (M' : hm_M), f_Reader_readE_1 S rP  q v0 v1 v2 v3 M = some (r, M') → hm_U X 8 [(0, .ref v0), (1, .int v1), (2, .int v2), (3, .int v3)] [] M (hm_Q X (some (.int r)) M') := by
  intro q
  induction q with
  | zero => intro v0 v1 v2 v3 M r M' hF; cases hF
  | succ q ih => intro v0 v1 v2 v3 M r M' hF; exact t_Reader_readE_1 h50 hrP hC ih hF
set_option maxRecDepth 100000 in
set_option maxHeartbeats 4000000 in
theorem k_Reader_readE {n : Nat} {S : hm_S} {rP : Nat → Int32 → hm_M → Option (Int32 × hm_M)} {dP : Nat} (h50 : 50 ≤ dP) (hrP : ∀ (a0 : Nat) (a1 : Int32) (M : hm_M) (r : Int32) (M' : hm_M), rP a0 a1 M = some (r, M') → hm_KM yX5_readPart cX5_readPart 5 (some .int) dP n S [.ref a0, .int a1] M (some (.int r)) M') {v0 : Nat} {v1 : Int32} {M : hm_M} {r : Int32} {M' : hm_M} (hF : f_Reader_readE S rP v0 v1 M = some (r, M')) : hm_KM yX5_readE cX5_readE 5 (some .int) (dP + 4) n S [.ref v0, .int v1] M (some (.int r)) M' := by
  refine hm_enter mm_Reader_readE (Nat.le_of_ble_eq_true rfl) (fun X hC => ?_)
  show hm_U X 0 [(0, .ref v0), (1, .int v1)] [] M _
  unfold f_Reader_readE at hF
  refine jv_aload_n hC 0 dX5_readE_0 rfl ?_
  refine jv_iload_n hC 1 dX5_readE_1 rfl ?_
  obtain ⟨g1, hF⟩ := hg_some hF
  obtain ⟨r4, M3, c2, hF⟩ := hb_some hF
  refine jv_callV hC (st := []) [.int v1] (k_Reader_readTest h50 hrP c2) mm_Reader_readTest mi_Reader_readTest ml_X5_166 dX5_readE_2 g1 rfl (by omega) rfl rfl (Nat.le_of_ble_eq_true rfl) ?_
  refine jv_nf 5 [.int r4] rfl rfl ?_
  refine jv_istore_n hC [(2, .int r4), (0, .ref v0), (1, .int v1)] dX5_readE_5 (by decide) rfl ?_
  refine jv_iconst hC dX5_readE_6 c32_0 ?_
  refine jv_istore_n hC [(3, .int (0 : Int32)), (2, .int r4), (0, .ref v0), (1, .int v1)] dX5_readE_7 (by decide) rfl ?_
  refine jv_sub [2, 3, 1, 0] (ls' := [(0, .ref v0), (1, .int v1), (2, .int r4), (3, .int (0 : Int32))]) rfl ?_
  exact jv_pc 8 rfl (s_Reader_readE_1 h50 hrP hC hN _ _ _ _ _ _ _ hF)
set_option maxRecDepth 100000 in
set_option maxHeartbeats 4000000 in
theorem k_Laws_close {n : Nat} {S : hm_S} {v0 : Nat} {v1 : Int32} {M : hm_M} {M' : hm_M} (hF : f_Laws_close S v0 v1 M = some M') : hm_KM yX3_close cX3_close 2 none 2 n S [.ref v0, .int v1] M none M' := by
  refine hm_enter mm_Laws_close (Nat.le_of_ble_eq_true rfl) (fun X hC => ?_)
  show hm_U X 0 [(0, .ref v0), (1, .int v1)] [] M _
  unfold f_Laws_close at hF
  refine jv_iload_n hC 1 dX3_close_0 rfl ?_
  obtain ⟨r3, M2, c1, hF⟩ := hb_some hF
  refine jv_callS hC (st := []) [.int v1] (k_Laws_isLaw c1) mm_Laws_isLaw ms_Laws_isLaw ml_X3_31 dX3_close_1 (Nat.le_of_ble_eq_true rfl) rfl rfl (Nat.le_of_ble_eq_true rfl) ?_
  refine jv_nf 4 [.int r3] rfl rfl ?_
  refine jv_if_eq hC 21 dX3_close_4 (by decide) (fun h4 => ?_) (fun h4 => ?_)
  · have hF := hi_pos h4 hF
    obtain rfl := hr_somev hF
    exact jv_vret hC dX3_close_21
  · have hF := hi_neg h4 hF
    refine jv_aload_n hC 0 dX3_close_7 rfl ?_
    obtain ⟨g5, hF⟩ := hg_some hF
    obtain ⟨g6, hF⟩ := hg_some hF
    refine jv_getR hC fl_X3_22 dX3_close_8 rfl g5 g6 ?_
    refine jv_iload_n hC 1 dX3_close_11 rfl ?_
    refine jv_sipush hC dX3_close_12 c16_135 ?_
    refine jv_isub hC dX3_close_15 ?_
    refine jv_aload_n hC 0 dX3_close_16 rfl ?_
    refine jv_getI hC fl_X3_15 dX3_close_17 rfl g5 ?_
    refine jv_pc 20 rfl ?_
    obtain ⟨g7, hF⟩ := hg_some hF
    obtain ⟨n8, sn8, in8⟩ := hm_ib_ok g7
    refine jv_iastore hC dX3_close_20 sn8 in8 ?_
    obtain ⟨M9, e10, hF⟩ := hl_some hF
    refine jv_mem e10 ?_
    obtain rfl := hr_somev hF
    exact jv_vret hC dX3_close_21
set_option maxRecDepth 100000 in
set_option maxHeartbeats 4000000 in
theorem k_Tape_isFact {n : Nat} {S : hm_S} {v0 : Nat} {M : hm_M} {r : Int32} {M' : hm_M} (hF : f_Tape_isFact S v0 M = some (r, M')) : hm_KM yX7_isFact cX7_isFact 1 (some .boolean) 1 n S [.ref v0] M (some (.int r)) M' := by
  refine hm_enter mm_Tape_isFact (Nat.le_of_ble_eq_true rfl) (fun X hC => ?_)
  show hm_U X 0 [(0, .ref v0)] [] M _
  unfold f_Tape_isFact at hF
  refine jv_aload_n hC 0 dX7_isFact_0 rfl ?_
  obtain ⟨g1, hF⟩ := hg_some hF
  refine jv_getI hC fl_X7_25 dX7_isFact_1 rfl g1 ?_
  refine jv_sipush hC dX7_isFact_4 c16_143 ?_
  refine jv_icmp_lt hC 24 dX7_isFact_7 (by decide) (fun h2 => ?_) (fun h2 => ?_)
  · have hF := hi_pos h2 hF
    refine jv_iconst hC dX7_isFact_24 c32_0 ?_
    obtain ⟨rfl, rfl⟩ := hr_some hF
    exact jv_zret hC (by decide) dX7_isFact_25
  · have hF := hi_neg h2 hF
    refine jv_aload_n hC 0 dX7_isFact_10 rfl ?_
    refine jv_getI hC fl_X7_25 dX7_isFact_11 rfl g1 ?_
    refine jv_sipush hC dX7_isFact_14 c16_149 ?_
    refine jv_icmp_gt hC 24 dX7_isFact_17 (by decide) (fun h3 => ?_) (fun h3 => ?_)
    · have hF := hi_pos h3 hF
      refine jv_iconst hC dX7_isFact_24 c32_0 ?_
      obtain ⟨rfl, rfl⟩ := hr_some hF
      exact jv_zret hC (by decide) dX7_isFact_25
    · have hF := hi_neg h3 hF
      refine jv_iconst hC dX7_isFact_20 c32_1 ?_
      refine jv_goto hC 25 dX7_isFact_21 (by decide) ?_
      obtain ⟨rfl, rfl⟩ := hr_some hF
      exact jv_zret hC (by decide) dX7_isFact_25
set_option maxRecDepth 100000 in
set_option maxHeartbeats 4000000 in
theorem s_Reader_isFactOf_1 {X : hm_X} {n : Nat} {S : hm_S} (hC : hm_C X RX5 cX5_isFactOf 2 (some .boolean) 1 n S) {v0 : Int32} {M : hm_M} {r : Int32} {M' : hm_M} (hF : b_Reader_isFactOf_1 S v0 M = some (r, M')) : hm_U X 30 [(0, .int v0)] [] M (hm_Q X (some (.int r)) M') := by
  unfold b_Reader_isFactOf_1 at hF
  refine jv_iload_n hC 0 dX5_isFactOf_30 rfl ?_
  refine jv_sipush hC dX5_isFactOf_31 c16_135 ?_
  refine jv_icmp_eq hC 44 dX5_isFactOf_34 (by decide) (fun h1 => ?_) (fun h1 => ?_)
  · have hF := hi_pos h1 hF
    refine jv_iconst hC dX5_isFactOf_44 c32_1 ?_
    refine jv_goto hC 49 dX5_isFactOf_45 (by decide) ?_
    obtain ⟨rfl, rfl⟩ := hr_some hF
    exact jv_zret hC (by decide) dX5_isFactOf_49
  · have hF := hi_neg h1 hF
    refine jv_iload_n hC 0 dX5_isFactOf_37 rfl ?_
    refine jv_sipush hC dX5_isFactOf_38 c16_136 ?_
    refine jv_icmp_ne hC 48 dX5_isFactOf_41 (by decide) (fun h2 => ?_) (fun h2 => ?_)
    · have hF := hi_neg h2 hF
      refine jv_iconst hC dX5_isFactOf_48 c32_0 ?_
      obtain ⟨rfl, rfl⟩ := hr_some hF
      exact jv_zret hC (by decide) dX5_isFactOf_49
    · have hF := hi_pos h2 hF
      refine jv_iconst hC dX5_isFactOf_44 c32_1 ?_
      refine jv_goto hC 49 dX5_isFactOf_45 (by decide) ?_
      obtain ⟨rfl, rfl⟩ := hr_some hF
      exact jv_zret hC (by decide) dX5_isFactOf_49
set_option maxRecDepth 100000 in
set_option maxHeartbeats 4000000 in
theorem k_Reader_isFactOf {n : Nat} {S : hm_S} {v0 : Int32} {v1 : Int32} {M : hm_M} {r : Int32} {M' : hm_M} (hF : f_Reader_isFactOf S v0 v1 M = some (r, M')) : hm_KM yX5_isFactOf cX5_isFactOf 2 (some .boolean) 1 n S [.int v0, .int v1] M (some (.int r)) M' := by
  refine hm_enter mm_Reader_isFactOf (Nat.le_of_ble_eq_true rfl) (fun X hC => ?_)
  show hm_U X 0 [(0, .int v0), (1, .int v1)] [] M _
  unfold f_Reader_isFactOf at hF
  refine jv_iload_n hC 1 dX5_isFactOf_0 rfl ?_
  refine jv_sipush hC dX5_isFactOf_1 c16_143 ?_
  refine jv_icmp_eq hC 14 dX5_isFactOf_4 (by decide) (fun h1 => ?_) (fun h1 => ?_)
  · have hF := hi_pos h1 hF
    refine jv_iconst hC dX5_isFactOf_14 c32_1 ?_
    obtain ⟨rfl, rfl⟩ := hr_some hF
    exact jv_zret hC (by decide) dX5_isFactOf_15
  · have hF := hi_neg h1 hF
    refine jv_iload_n hC 1 dX5_isFactOf_7 rfl ?_
    refine jv_sipush hC dX5_isFactOf_8 c16_144 ?_
    refine jv_icmp_ne hC 16 dX5_isFactOf_11 (by decide) (fun h2 => ?_) (fun h2 => ?_)
    · have hF := hi_neg h2 hF
      refine jv_iload_n hC 1 dX5_isFactOf_16 rfl ?_
      refine jv_sipush hC dX5_isFactOf_17 c16_145 ?_
      refine jv_icmp_eq hC 30 dX5_isFactOf_20 (by decide) (fun h3 => ?_) (fun h3 => ?_)
      · have hF := hi_pos h3 hF
        refine jv_sub [0] (ls' := [(0, .int v0)]) rfl ?_
        exact jv_pc 30 rfl (s_Reader_isFactOf_1 hC hF)
      · have hF := hi_neg h3 hF
        refine jv_iload_n hC 1 dX5_isFactOf_23 rfl ?_
        refine jv_sipush hC dX5_isFactOf_24 c16_146 ?_
        refine jv_icmp_ne hC 50 dX5_isFactOf_27 (by decide) (fun h4 => ?_) (fun h4 => ?_)
        · have hF := hi_neg h4 hF
          refine jv_iload_n hC 0 dX5_isFactOf_50 rfl ?_
          refine jv_sipush hC dX5_isFactOf_51 c16_138 ?_
          refine jv_icmp_ne hC 61 dX5_isFactOf_54 (by decide) (fun h5 => ?_) (fun h5 => ?_)
          · have hF := hi_neg h5 hF
            refine jv_iconst hC dX5_isFactOf_61 c32_0 ?_
            obtain ⟨rfl, rfl⟩ := hr_some hF
            exact jv_zret hC (by decide) dX5_isFactOf_62
          · have hF := hi_pos h5 hF
            refine jv_iconst hC dX5_isFactOf_57 c32_1 ?_
            refine jv_goto hC 62 dX5_isFactOf_58 (by decide) ?_
            obtain ⟨rfl, rfl⟩ := hr_some hF
            exact jv_zret hC (by decide) dX5_isFactOf_62
        · have hF := hi_pos h4 hF
          refine jv_sub [0] (ls' := [(0, .int v0)]) rfl ?_
          exact jv_pc 30 rfl (s_Reader_isFactOf_1 hC hF)
    · have hF := hi_pos h2 hF
      refine jv_iconst hC dX5_isFactOf_14 c32_1 ?_
      obtain ⟨rfl, rfl⟩ := hr_some hF
      exact jv_zret hC (by decide) dX5_isFactOf_15
set_option maxRecDepth 100000 in
set_option maxHeartbeats 4000000 in
theorem k_Reader_startsPart {n : Nat} {S : hm_S} {v0 : Nat} {M : hm_M} {r : Int32} {M' : hm_M} (hF : f_Reader_startsPart S v0 M = some (r, M')) : hm_KM yX5_startsPart cX5_startsPart 1 (some .boolean) 2 n S [.ref v0] M (some (.int r)) M' := by
  refine hm_enter mm_Reader_startsPart (Nat.le_of_ble_eq_true rfl) (fun X hC => ?_)
  show hm_U X 0 [(0, .ref v0)] [] M _
  unfold f_Reader_startsPart at hF
  refine jv_aload_n hC 0 dX5_startsPart_0 rfl ?_
  obtain ⟨g1, hF⟩ := hg_some hF
  obtain ⟨g2, hF⟩ := hg_some hF
  refine jv_getR hC fl_X5_12 dX5_startsPart_1 rfl g1 g2 ?_
  obtain ⟨g3, hF⟩ := hg_some hF
  refine jv_getI hC fl_X5_41 dX5_startsPart_4 rfl g3 ?_
  refine jv_iconst hC dX5_startsPart_7 c32_2 ?_
  refine jv_icmp_eq hC 63 dX5_startsPart_8 (by decide) (fun h4 => ?_) (fun h4 => ?_)
  · have hF := hi_pos h4 hF
    refine jv_iconst hC dX5_startsPart_63 c32_1 ?_
    refine jv_goto hC 68 dX5_startsPart_64 (by decide) ?_
    obtain ⟨rfl, rfl⟩ := hr_some hF
    exact jv_zret hC (by decide) dX5_startsPart_68
  · have hF := hi_neg h4 hF
    refine jv_aload_n hC 0 dX5_startsPart_11 rfl ?_
    refine jv_getR hC fl_X5_12 dX5_startsPart_12 rfl g1 g2 ?_
    refine jv_getI hC fl_X5_41 dX5_startsPart_15 rfl g3 ?_
    refine jv_sipush hC dX5_startsPart_18 c16_140 ?_
    refine jv_icmp_eq hC 63 dX5_startsPart_21 (by decide) (fun h5 => ?_) (fun h5 => ?_)
    · have hF := hi_pos h5 hF
      refine jv_iconst hC dX5_startsPart_63 c32_1 ?_
      refine jv_goto hC 68 dX5_startsPart_64 (by decide) ?_
      obtain ⟨rfl, rfl⟩ := hr_some hF
      exact jv_zret hC (by decide) dX5_startsPart_68
    · have hF := hi_neg h5 hF
      refine jv_aload_n hC 0 dX5_startsPart_24 rfl ?_
      refine jv_getR hC fl_X5_12 dX5_startsPart_25 rfl g1 g2 ?_
      refine jv_getI hC fl_X5_41 dX5_startsPart_28 rfl g3 ?_
      refine jv_bipush hC dX5_startsPart_31 c8_40 ?_
      refine jv_icmp_eq hC 63 dX5_startsPart_33 (by decide) (fun h6 => ?_) (fun h6 => ?_)
      · have hF := hi_pos h6 hF
        refine jv_iconst hC dX5_startsPart_63 c32_1 ?_
        refine jv_goto hC 68 dX5_startsPart_64 (by decide) ?_
        obtain ⟨rfl, rfl⟩ := hr_some hF
        exact jv_zret hC (by decide) dX5_startsPart_68
      · have hF := hi_neg h6 hF
        refine jv_aload_n hC 0 dX5_startsPart_36 rfl ?_
        refine jv_getR hC fl_X5_12 dX5_startsPart_37 rfl g1 g2 ?_
        obtain ⟨r9, M8, c7, hF⟩ := hb_some hF
        refine jv_callV hC (st := []) [] (k_Tape_isFact c7) mm_Tape_isFact mi_Tape_isFact ml_X5_184 dX5_startsPart_40 g3 rfl (Nat.le_of_ble_eq_true rfl) rfl rfl (Nat.le_of_ble_eq_true rfl) ?_
        refine jv_nf 43 [.int r9] rfl rfl ?_
        refine jv_if_eq hC 67 dX5_startsPart_43 (by decide) (fun h10 => ?_) (fun h10 => ?_)
        · have hF := hi_pos h10 hF
          refine jv_iconst hC dX5_startsPart_67 c32_0 ?_
          obtain ⟨rfl, rfl⟩ := hr_some hF
          exact jv_zret hC (by decide) dX5_startsPart_68
        · have hF := hi_neg h10 hF
          refine jv_aload_n hC 0 dX5_startsPart_46 rfl ?_
          refine jv_getI hC fl_X5_32 dX5_startsPart_47 rfl g1 ?_
          refine jv_aload_n hC 0 dX5_startsPart_50 rfl ?_
          obtain ⟨g11, hF⟩ := hg_some hF
          refine jv_getR hC fl_X5_12 dX5_startsPart_51 rfl g1 g11 ?_
          obtain ⟨g12, hF⟩ := hg_some hF
          refine jv_getI hC fl_X5_41 dX5_startsPart_54 rfl g12 ?_
          obtain ⟨r15, M14, c13, hF⟩ := hb_some hF
          refine jv_callS hC (st := []) [.int (M8.1 v0 4), .int (M8.1 (M8.2.2 v0 0) 4)] (k_Reader_isFactOf c13) mm_Reader_isFactOf ms_Reader_isFactOf ml_X5_187 dX5_startsPart_57 (Nat.le_of_ble_eq_true rfl) rfl rfl (Nat.le_of_ble_eq_true rfl) ?_
          refine jv_nf 60 [.int r15] rfl rfl ?_
          refine jv_if_eq hC 67 dX5_startsPart_60 (by decide) (fun h16 => ?_) (fun h16 => ?_)
          · have hF := hi_pos h16 hF
            refine jv_iconst hC dX5_startsPart_67 c32_0 ?_
            obtain ⟨rfl, rfl⟩ := hr_some hF
            exact jv_zret hC (by decide) dX5_startsPart_68
          · have hF := hi_neg h16 hF
            refine jv_iconst hC dX5_startsPart_63 c32_1 ?_
            refine jv_goto hC 68 dX5_startsPart_64 (by decide) ?_
            obtain ⟨rfl, rfl⟩ := hr_some hF
            exact jv_zret hC (by decide) dX5_startsPart_68
set_option maxRecDepth 100000 in
set_option maxHeartbeats 4000000 in
theorem s_Reader_readPart_3 {X : hm_X} {n : Nat} {S : hm_S} {rP : Nat → Int32 → hm_M → Option (Int32 × hm_M)} {dP : Nat} (h50 : 50 ≤ dP) (hrP : ∀ (a0 : Nat) (a1 : Int32) (M : hm_M) (r : Int32) (M' : hm_M), rP a0 a1 M = some (r, M') → hm_KM yX5_readPart cX5_readPart 5 (some .int) dP n S [.ref a0, .int a1] M (some (.int r)) M') (hC : hm_C X RX5 cX5_readPart 5 (some .int) (dP + 5) n S) {v4 : Int32} {s0 : Int32} {s1 : Nat} {M : hm_M} {r : Int32} {M' : hm_M} (hF : b_Reader_readPart_3 S rP v4 s0 s1 M = some (r, M')) : hm_U X 130 [(4, .int v4)] [.int s0, .ref s1] M (hm_Q X (some (.int r)) M') := by
  unfold b_Reader_readPart_3 at hF
  obtain ⟨g1, hF⟩ := hg_some hF
  obtain ⟨M3, c2, hF⟩ := hv_some hF
  refine jv_callV hC (st := []) [.int s0] (k_Laws_add c2) mm_Laws_add mi_Laws_add ml_X5_169 dX5_readPart_130 g1 rfl (by omega) rfl rfl (Nat.le_of_ble_eq_true rfl) ?_
  refine jv_nf 133 [] rfl rfl ?_
  refine jv_iload hC 0 dX5_readPart_133 rfl ?_
  obtain ⟨rfl, rfl⟩ := hr_some hF
  exact jv_iret hC dX5_readPart_135
set_option maxRecDepth 100000 in
set_option maxHeartbeats 4000000 in
theorem s_Reader_readPart_2 {X : hm_X} {n : Nat} {S : hm_S} {rP : Nat → Int32 → hm_M → Option (Int32 × hm_M)} {dP : Nat} (h50 : 50 ≤ dP) (hrP : ∀ (a0 : Nat) (a1 : Int32) (M : hm_M) (r : Int32) (M' : hm_M), rP a0 a1 M = some (r, M') → hm_KM yX5_readPart cX5_readPart 5 (some .int) dP n S [.ref a0, .int a1] M (some (.int r)) M') (hC : hm_C X RX5 cX5_readPart 5 (some .int) (dP + 5) n S) {v0 : Nat} {v2 : Int32} {v3 : Int32} {s0 : Int32} {M : hm_M} {r : Int32} {M' : hm_M} (hF : b_Reader_readPart_2 S rP v0 v2 v3 s0 M = some (r, M')) : hm_U X 110 [(0, .ref v0), (2, .int v2), (3, .int v3)] [.int s0] M (hm_Q X (some (.int r)) M') := by
  unfold b_Reader_readPart_2 at hF
  refine jv_istore hC [(4, .int s0), (0, .ref v0), (2, .int v2), (3, .int v3)] dX5_readPart_110 (by decide) rfl ?_
  refine jv_aload_n hC 1 dX5_readPart_112 rfl ?_
  obtain ⟨g1, hF⟩ := hg_some hF
  obtain ⟨g2, hF⟩ := hg_some hF
  refine jv_getR hC fl_X5_21 dX5_readPart_113 rfl g1 g2 ?_
  obtain ⟨g3, hF⟩ := hg_some hF
  obtain ⟨g4, hF⟩ := hg_some hF
  refine jv_getR hC fl_X5_150 dX5_readPart_116 rfl g3 g4 ?_
  refine jv_iload_n hC 2 dX5_readPart_119 rfl ?_
  refine jv_iconst hC dX5_readPart_120 c32_2 ?_
  refine jv_icmp_ne hC 128 dX5_readPart_121 (by decide) (fun h5 => ?_) (fun h5 => ?_)
  · have hF := hi_neg h5 hF
    refine jv_iload_n hC 2 dX5_readPart_128 rfl ?_
    refine jv_ineg hC dX5_readPart_129 ?_
    refine jv_sub [0] (ls' := [(4, .int s0)]) rfl ?_
    exact jv_pc 130 rfl (s_Reader_readPart_3 h50 hrP hC hF)
  · have hF := hi_pos h5 hF
    refine jv_iload_n hC 3 dX5_readPart_124 rfl ?_
    refine jv_goto hC 130 dX5_readPart_125 (by decide) ?_
    refine jv_sub [0] (ls' := [(4, .int s0)]) rfl ?_
    exact jv_pc 130 rfl (s_Reader_readPart_3 h50 hrP hC hF)
set_option maxRecDepth 100000 in
set_option maxHeartbeats 4000000 in
theorem s_Reader_readPart_1 {X : hm_X} {n : Nat} {S : hm_S} {rP : Nat → Int32 → hm_M → Option (Int32 × hm_M)} {dP : Nat} (h50 : 50 ≤ dP) (hrP : ∀ (a0 : Nat) (a1 : Int32) (M : hm_M) (r : Int32) (M' : hm_M), rP a0 a1 M = some (r, M') → hm_KM yX5_readPart cX5_readPart 5 (some .int) dP n S [.ref a0, .int a1] M (some (.int r)) M') (hC : hm_C X RX5 cX5_readPart 5 (some .int) (dP + 5) n S) {v4 : Int32} {M : hm_M} {r : Int32} {M' : hm_M} (hF : b_Reader_readPart_1 S rP v4 M = some (r, M')) : hm_U X 71 [(4, .int v4)] [] M (hm_Q X (some (.int r)) M') := by
  unfold b_Reader_readPart_1 at hF
  refine jv_iload hC 0 dX5_readPart_71 rfl ?_
  refine jv_if_eq hC 81 dX5_readPart_73 (by decide) (fun h1 => ?_) (fun h1 => ?_)
  · have hF := hi_pos h1 hF
    refine jv_iconst hC dX5_readPart_81 c32_1 ?_
    obtain ⟨rfl, rfl⟩ := hr_some hF
    exact jv_iret hC dX5_readPart_82
  · have hF := hi_neg h1 hF
    refine jv_iload hC 0 dX5_readPart_76 rfl ?_
    refine jv_goto hC 82 dX5_readPart_78 (by decide) ?_
    obtain ⟨rfl, rfl⟩ := hr_some hF
    exact jv_iret hC dX5_readPart_82
set_option maxRecDepth 100000 in
set_option maxHeartbeats 4000000 in
theorem ke_Reader_readPart {n : Nat} {S : hm_S} {rP : Nat → Int32 → hm_M → Option (Int32 × hm_M)} {dP : Nat} (h50 : 50 ≤ dP) (hrP : ∀ (a0 : Nat) (a1 : Int32) (M : hm_M) (r : Int32) (M' : hm_M), rP a0 a1 M = some (r, M') → hm_KM yX5_readPart cX5_readPart 5 (some .int) dP n S [.ref a0, .int a1] M (some (.int r)) M') {v0 : Nat} {v1 : Int32} {M : hm_M} {r : Int32} {M' : hm_M} (hF : e_Reader_readPart S rP v0 v1 M = some (r, M')) : hm_KM yX5_readPart cX5_readPart 5 (some .int) (dP + 5) n S [.ref v0, .int v1] M (some (.int r)) M' := by
  refine hm_enter mm_Reader_readPart (Nat.le_of_ble_eq_true rfl) (fun X hC => ?_)
  show hm_U X 0 [(0, .ref v0), (1, .int v1)] [] M _
  unfold e_Reader_readPart at hF
  refine jv_aload_n hC 0 dX5_readPart_0 rfl ?_
  obtain ⟨g1, hF⟩ := hg_some hF
  obtain ⟨r4, M3, c2, hF⟩ := hb_some hF
  refine jv_callV hC (st := []) [] (k_Reader_startsPart c2) mm_Reader_startsPart mi_Reader_startsPart ml_X5_181 dX5_readPart_1 g1 rfl (by omega) rfl rfl (Nat.le_of_ble_eq_true rfl) ?_
  refine jv_nf 4 [.int r4] rfl rfl ?_
  refine jv_if_ne hC 9 dX5_readPart_4 (by decide) (fun h5 => ?_) (fun h5 => ?_)
  · have hF := hi_neg h5 hF
    refine jv_iload_n hC 1 dX5_readPart_9 rfl ?_
    refine jv_iconst hC dX5_readPart_10 c32_5 ?_
    refine jv_icmp_lt hC 16 dX5_readPart_11 (by decide) (fun h6 => ?_) (fun h6 => ?_)
    · have hF := hi_pos h6 hF
      refine jv_aload_n hC 0 dX5_readPart_16 rfl ?_
      obtain ⟨g7, hF⟩ := hg_some hF
      refine jv_getR hC fl_X5_12 dX5_readPart_17 rfl g1 g7 ?_
      obtain ⟨g8, hF⟩ := hg_some hF
      refine jv_getI hC fl_X5_41 dX5_readPart_20 rfl g8 ?_
      obtain ⟨x9, e10, hF⟩ := hl_some hF
      refine jv_topI e10 ?_
      refine jv_istore_n hC [(2, .int x9), (0, .ref v0), (1, .int v1)] dX5_readPart_23 (by decide) rfl ?_
      refine jv_aload_n hC 1 dX5_readPart_24 rfl ?_
      refine jv_getR hC fl_X5_12 dX5_readPart_25 rfl g1 g7 ?_
      refine jv_getI hC fl_X5_137 dX5_readPart_28 rfl g8 ?_
      refine jv_pc 31 rfl ?_
      obtain ⟨x11, e12, hF⟩ := hl_some hF
      refine jv_topI e12 ?_
      refine jv_istore_n hC [(3, .int x11), (2, .int x9), (0, .ref v0), (1, .int v1)] dX5_readPart_31 (by decide) rfl ?_
      refine jv_aload_n hC 2 dX5_readPart_32 rfl ?_
      refine jv_getR hC fl_X5_12 dX5_readPart_33 rfl g1 g7 ?_
      obtain ⟨M14, c13, hF⟩ := hv_some hF
      refine jv_callV hC (st := []) [] (k_Tape_next c13) mm_Tape_next mi_Tape_next ml_X5_89 dX5_readPart_36 g8 rfl (by omega) rfl rfl (Nat.le_of_ble_eq_true rfl) ?_
      refine jv_nf 39 [] rfl rfl ?_
      refine jv_iload_n hC 1 dX5_readPart_39 rfl ?_
      refine jv_bipush hC dX5_readPart_40 c8_40 ?_
      refine jv_icmp_ne hC 92 dX5_readPart_42 (by decide) (fun h15 => ?_) (fun h15 => ?_)
      · have hF := hi_neg h15 hF
        refine jv_iload_n hC 1 dX5_readPart_92 rfl ?_
        refine jv_sipush hC dX5_readPart_93 c16_140 ?_
        refine jv_icmp_ne hC 109 dX5_readPart_96 (by decide) (fun h16 => ?_) (fun h16 => ?_)
        · have hF := hi_neg h16 hF
          refine jv_iconst hC dX5_readPart_109 c32_0 ?_
          refine jv_sub [2, 1, 0] (ls' := [(0, .ref v0), (2, .int x9), (3, .int x11)]) rfl ?_
          exact jv_pc 110 rfl (s_Reader_readPart_2 h50 hrP hC hF)
        · have hF := hi_pos h16 hF
          refine jv_aload_n hC 2 dX5_readPart_99 rfl ?_
          refine jv_iload_n hC 3 dX5_readPart_100 rfl ?_
          refine jv_iconst hC dX5_readPart_101 c32_1 ?_
          refine jv_iadd hC dX5_readPart_102 ?_
          obtain ⟨r19, M18, c17, hF⟩ := hb_some hF
          refine jv_callV hC (st := []) [.int (v1 + (1 : Int32))] (hrP _ _ _ _ _ c17) mm_Reader_readPart mi_Reader_readPart ml_X5_178 dX5_readPart_103 g1 rfl (by omega) rfl rfl (Nat.le_of_ble_eq_true rfl) ?_
          refine jv_nf 106 [.int r19] rfl rfl ?_
          refine jv_goto hC 110 dX5_readPart_106 (by decide) ?_
          refine jv_sub [2, 1, 0] (ls' := [(0, .ref v0), (2, .int x9), (3, .int x11)]) rfl ?_
          exact jv_pc 110 rfl (s_Reader_readPart_2 h50 hrP hC hF)
      · have hF := hi_pos h15 hF
        refine jv_aload_n hC 2 dX5_readPart_45 rfl ?_
        refine jv_iload_n hC 3 dX5_readPart_46 rfl ?_
        refine jv_iconst hC dX5_readPart_47 c32_1 ?_
        refine jv_iadd hC dX5_readPart_48 ?_
        obtain ⟨r22, M21, c20, hF⟩ := hb_some hF
        refine jv_callV hC (st := []) [.int (v1 + (1 : Int32))] (k_Reader_readE h50 hrP c20) mm_Reader_readE mi_Reader_readE ml_X5_160 dX5_readPart_49 g1 rfl (by omega) rfl rfl (Nat.le_of_ble_eq_true rfl) ?_
        refine jv_nf 52 [.int r22] rfl rfl ?_
        refine jv_istore hC [(4, .int r22), (3, .int x11), (2, .int x9), (0, .ref v0), (1, .int v1)] dX5_readPart_52 (by decide) rfl ?_
        refine jv_iload hC 0 dX5_readPart_54 rfl ?_
        refine jv_if_ne hC 71 dX5_readPart_56 (by decide) (fun h23 => ?_) (fun h23 => ?_)
        · have hF := hi_neg h23 hF
          refine jv_sub [0] (ls' := [(4, .int r22)]) rfl ?_
          exact jv_pc 71 rfl (s_Reader_readPart_1 h50 hrP hC hF)
        · have hF := hi_pos h23 hF
          refine jv_aload_n hC 3 dX5_readPart_59 rfl ?_
          obtain ⟨g24, hF⟩ := hg_some hF
          refine jv_getR hC fl_X5_12 dX5_readPart_60 rfl g1 g24 ?_
          obtain ⟨g25, hF⟩ := hg_some hF
          refine jv_getI hC fl_X5_41 dX5_readPart_63 rfl g25 ?_
          refine jv_bipush hC dX5_readPart_66 c8_41 ?_
          refine jv_icmp_eq hC 83 dX5_readPart_68 (by decide) (fun h26 => ?_) (fun h26 => ?_)
          · have hF := hi_pos h26 hF
            refine jv_aload_n hC 3 dX5_readPart_83 rfl ?_
            refine jv_getR hC fl_X5_12 dX5_readPart_84 rfl g1 g24 ?_
            obtain ⟨M28, c27, hF⟩ := hv_some hF
            refine jv_callV hC (st := []) [] (k_Tape_next c27) mm_Tape_next mi_Tape_next ml_X5_89 dX5_readPart_87 g25 rfl (by omega) rfl rfl (Nat.le_of_ble_eq_true rfl) ?_
            refine jv_nf 90 [] rfl rfl ?_
            refine jv_iconst hC dX5_readPart_90 c32_0 ?_
            obtain ⟨rfl, rfl⟩ := hr_some hF
            exact jv_iret hC dX5_readPart_91
          · have hF := hi_neg h26 hF
            refine jv_sub [0] (ls' := [(4, .int r22)]) rfl ?_
            exact jv_pc 71 rfl (s_Reader_readPart_1 h50 hrP hC hF)
    · have hF := hi_neg h6 hF
      refine jv_iconst hC dX5_readPart_14 c32_5 ?_
      obtain ⟨rfl, rfl⟩ := hr_some hF
      exact jv_iret hC dX5_readPart_15
  · have hF := hi_pos h5 hF
    refine jv_iconst hC dX5_readPart_7 c32_1 ?_
    obtain ⟨rfl, rfl⟩ := hr_some hF
    exact jv_iret hC dX5_readPart_8
theorem k_Reader_readPart {n : Nat} {S : hm_S} : ∀ (q : Nat) {v0 : Nat} {v1 : Int32} {M : hm_M} {r : Int32} {M' : hm_M}, f_Reader_readPart S q v0 v1 M = some (r, M') → hm_KM yX5_readPart cX5_readPart 5 (some .int) (50 + 5 * q) n S [.ref v0, .int v1] M (some (.int r)) M' := by
  intro q
  induction q with
  | zero => intro v0 v1 M r M' hF; cases hF
  | succ q ih => intro v0 v1 M r M' hF; exact ke_Reader_readPart (Nat.le_add_right 50 _) (fun _ _ _ _ _ => ih) hF
set_option maxRecDepth 100000 in
set_option maxHeartbeats 4000000 in
theorem s_Reader_readLaw_1 {X : hm_X} {n : Nat} {S : hm_S} (hC : hm_C X RX5 cX5_readLaw 2 (some .int) 155 n S) {v0 : Nat} {v1 : Int32} {M : hm_M} {r : Int32} {M' : hm_M} (hF : b_Reader_readLaw_1 S v0 v1 M = some (r, M')) : hm_U X 40 [(0, .ref v0), (1, .int v1)] [] M (hm_Q X (some (.int r)) M') := by
  unfold b_Reader_readLaw_1 at hF
  refine jv_iload_n hC 1 dX5_readLaw_40 rfl ?_
  refine jv_if_ne hC 65 dX5_readLaw_41 (by decide) (fun h1 => ?_) (fun h1 => ?_)
  · have hF := hi_neg h1 hF
    refine jv_iload_n hC 1 dX5_readLaw_65 rfl ?_
    obtain ⟨rfl, rfl⟩ := hr_some hF
    exact jv_iret hC dX5_readLaw_66
  · have hF := hi_pos h1 hF
    refine jv_aload_n hC 0 dX5_readLaw_44 rfl ?_
    obtain ⟨g2, hF⟩ := hg_some hF
    obtain ⟨g3, hF⟩ := hg_some hF
    refine jv_getR hC fl_X5_21 dX5_readLaw_45 rfl g2 g3 ?_
    obtain ⟨g4, hF⟩ := hg_some hF
    obtain ⟨g5, hF⟩ := hg_some hF
    refine jv_getR hC fl_X5_150 dX5_readLaw_48 rfl g4 g5 ?_
    refine jv_aload_n hC 0 dX5_readLaw_51 rfl ?_
    refine jv_getI hC fl_X5_32 dX5_readLaw_52 rfl g2 ?_
    obtain ⟨g6, hF⟩ := hg_some hF
    obtain ⟨M8, c7, hF⟩ := hv_some hF
    refine jv_callV hC (st := []) [.int (M.1 v0 4)] (k_Laws_close c7) mm_Laws_close mi_Laws_close ml_X5_163 dX5_readLaw_55 g6 rfl (Nat.le_of_ble_eq_true rfl) rfl rfl (Nat.le_of_ble_eq_true rfl) ?_
    refine jv_nf 58 [] rfl rfl ?_
    refine jv_aload_n hC 0 dX5_readLaw_58 rfl ?_
    refine jv_bipush hC dX5_readLaw_59 c8_59 ?_
    obtain ⟨r11, M10, c9, hF⟩ := hb_some hF
    refine jv_callV hC (st := []) [.int (59 : Int32)] (k_Reader_take c9) mm_Reader_take mi_Reader_take ml_X5_82 dX5_readLaw_61 g2 rfl (Nat.le_of_ble_eq_true rfl) rfl rfl (Nat.le_of_ble_eq_true rfl) ?_
    refine jv_nf 64 [.int r11] rfl rfl ?_
    refine jv_istore_n hC [(1, .int r11), (0, .ref v0)] dX5_readLaw_64 (by decide) rfl ?_
    refine jv_iload_n hC 0 dX5_readLaw_65 rfl ?_
    obtain ⟨rfl, rfl⟩ := hr_some hF
    exact jv_iret hC dX5_readLaw_66
set_option maxRecDepth 100000 in
set_option maxHeartbeats 4000000 in
theorem k_Reader_readLaw {n : Nat} {S : hm_S} {v0 : Nat} {M : hm_M} {r : Int32} {M' : hm_M} (hF : f_Reader_readLaw S v0 M = some (r, M')) : hm_KM yX5_readLaw cX5_readLaw 2 (some .int) 155 n S [.ref v0] M (some (.int r)) M' := by
  refine hm_enter mm_Reader_readLaw (Nat.le_of_ble_eq_true rfl) (fun X hC => ?_)
  show hm_U X 0 [(0, .ref v0)] [] M _
  unfold f_Reader_readLaw at hF
  refine jv_aload_n hC 0 dX5_readLaw_0 rfl ?_
  refine jv_aload_n hC 0 dX5_readLaw_1 rfl ?_
  obtain ⟨g1, hF⟩ := hg_some hF
  obtain ⟨g2, hF⟩ := hg_some hF
  refine jv_getR hC fl_X5_12 dX5_readLaw_2 rfl g1 g2 ?_
  obtain ⟨g3, hF⟩ := hg_some hF
  refine jv_getI hC fl_X5_41 dX5_readLaw_5 rfl g3 ?_
  refine jv_putI hC fl_X5_32 dX5_readLaw_8 rfl rfl rfl g1 ?_
  obtain ⟨M4, e5, hF⟩ := hl_some hF
  refine jv_mem e5 ?_
  refine jv_aload_n hC 0 dX5_readLaw_11 rfl ?_
  obtain ⟨r8, M7, c6, hF⟩ := hb_some hF
  refine jv_callV hC (st := []) [] (k_Reader_takeOnce c6) mm_Reader_takeOnce mi_Reader_takeOnce ml_X5_69 dX5_readLaw_12 g1 rfl (Nat.le_of_ble_eq_true rfl) rfl rfl (Nat.le_of_ble_eq_true rfl) ?_
  refine jv_nf 15 [.int r8] rfl rfl ?_
  refine jv_istore_n hC [(1, .int r8), (0, .ref v0)] dX5_readLaw_15 (by decide) rfl ?_
  refine jv_iload_n hC 0 dX5_readLaw_16 rfl ?_
  refine jv_if_ne hC 40 dX5_readLaw_17 (by decide) (fun h9 => ?_) (fun h9 => ?_)
  · have hF := hi_neg h9 hF
    refine jv_sub [1, 0] (ls' := [(0, .ref v0), (1, .int r8)]) rfl ?_
    exact jv_pc 40 rfl (s_Reader_readLaw_1 hC hF)
  · have hF := hi_pos h9 hF
    refine jv_aload_n hC 1 dX5_readLaw_20 rfl ?_
    obtain ⟨g10, hF⟩ := hg_some hF
    refine jv_getR hC fl_X5_21 dX5_readLaw_21 rfl g1 g10 ?_
    obtain ⟨g11, hF⟩ := hg_some hF
    obtain ⟨g12, hF⟩ := hg_some hF
    refine jv_getR hC fl_X5_150 dX5_readLaw_24 rfl g11 g12 ?_
    refine jv_aload_n hC 1 dX5_readLaw_27 rfl ?_
    refine jv_getI hC fl_X5_32 dX5_readLaw_28 rfl g1 ?_
    obtain ⟨g13, hF⟩ := hg_some hF
    obtain ⟨M15, c14, hF⟩ := hv_some hF
    refine jv_callV hC (st := []) [.int (M7.1 v0 4)] (k_Laws_open c14) mm_Laws_open mi_Laws_open ml_X5_154 dX5_readLaw_31 g13 rfl (Nat.le_of_ble_eq_true rfl) rfl rfl (Nat.le_of_ble_eq_true rfl) ?_
    refine jv_nf 34 [] rfl rfl ?_
    refine jv_aload_n hC 1 dX5_readLaw_34 rfl ?_
    refine jv_iconst hC dX5_readLaw_35 c32_0 ?_
    obtain ⟨r18, M17, c16, hF⟩ := hb_some hF
    refine jv_callV hC (st := []) [.int (0 : Int32)] (k_Reader_readE (Nat.le_add_right 50 _) (fun _ _ _ _ _ => k_Reader_readPart hD) c16) mm_Reader_readE mi_Reader_readE ml_X5_160 dX5_readLaw_36 g1 rfl (Nat.le_of_ble_eq_true rfl) rfl rfl (Nat.le_of_ble_eq_true rfl) ?_
    refine jv_nf 39 [.int r18] rfl rfl ?_
    refine jv_istore_n hC [(1, .int r18), (0, .ref v0)] dX5_readLaw_39 (by decide) rfl ?_
    refine jv_sub [1, 0] (ls' := [(0, .ref v0), (1, .int r18)]) rfl ?_
    exact jv_pc 40 rfl (s_Reader_readLaw_1 hC hF)
set_option maxRecDepth 100000 in
set_option maxHeartbeats 4000000 in
theorem s_Reader_readCloud_1 {X : hm_X} {n : Nat} {S : hm_S} (hC : hm_C X RX5 cX5_readCloud 2 (some .int) 10 n S) {v0 : Nat} {v1 : Int32} {M : hm_M} {r : Int32} {M' : hm_M} (hF : b_Reader_readCloud_1 S v0 v1 M = some (r, M')) : hm_U X 17 [(0, .ref v0), (1, .int v1)] [] M (hm_Q X (some (.int r)) M') := by
  unfold b_Reader_readCloud_1 at hF
  refine jv_iload_n hC 1 dX5_readCloud_17 rfl ?_
  refine jv_if_ne hC 39 dX5_readCloud_18 (by decide) (fun h1 => ?_) (fun h1 => ?_)
  · have hF := hi_neg h1 hF
    refine jv_iload_n hC 1 dX5_readCloud_39 rfl ?_
    obtain ⟨rfl, rfl⟩ := hr_some hF
    exact jv_iret hC dX5_readCloud_40
  · have hF := hi_pos h1 hF
    refine jv_aload_n hC 0 dX5_readCloud_21 rfl ?_
    obtain ⟨g2, hF⟩ := hg_some hF
    obtain ⟨g3, hF⟩ := hg_some hF
    refine jv_getR hC fl_X5_21 dX5_readCloud_22 rfl g2 g3 ?_
    refine jv_aload_n hC 0 dX5_readCloud_25 rfl ?_
    refine jv_getI hC fl_X5_29 dX5_readCloud_26 rfl g2 ?_
    obtain ⟨g4, hF⟩ := hg_some hF
    refine jv_putI hC fl_X5_147 dX5_readCloud_29 rfl rfl rfl g4 ?_
    obtain ⟨M5, e6, hF⟩ := hl_some hF
    refine jv_mem e6 ?_
    refine jv_aload_n hC 0 dX5_readCloud_32 rfl ?_
    refine jv_bipush hC dX5_readCloud_33 c8_59 ?_
    refine jv_pc 35 rfl ?_
    obtain ⟨r9, M8, c7, hF⟩ := hb_some hF
    refine jv_callV hC (st := []) [.int (59 : Int32)] (k_Reader_take c7) mm_Reader_take mi_Reader_take ml_X5_82 dX5_readCloud_35 g2 rfl (Nat.le_of_ble_eq_true rfl) rfl rfl (Nat.le_of_ble_eq_true rfl) ?_
    refine jv_nf 38 [.int r9] rfl rfl ?_
    refine jv_istore_n hC [(1, .int r9), (0, .ref v0)] dX5_readCloud_38 (by decide) rfl ?_
    refine jv_iload_n hC 0 dX5_readCloud_39 rfl ?_
    obtain ⟨rfl, rfl⟩ := hr_some hF
    exact jv_iret hC dX5_readCloud_40
set_option maxRecDepth 100000 in
set_option maxHeartbeats 4000000 in
theorem k_Reader_readCloud {n : Nat} {S : hm_S} {v0 : Nat} {M : hm_M} {r : Int32} {M' : hm_M} (hF : f_Reader_readCloud S v0 M = some (r, M')) : hm_KM yX5_readCloud cX5_readCloud 2 (some .int) 10 n S [.ref v0] M (some (.int r)) M' := by
  refine hm_enter mm_Reader_readCloud (Nat.le_of_ble_eq_true rfl) (fun X hC => ?_)
  show hm_U X 0 [(0, .ref v0)] [] M _
  unfold f_Reader_readCloud at hF
  refine jv_aload_n hC 0 dX5_readCloud_0 rfl ?_
  obtain ⟨g1, hF⟩ := hg_some hF
  obtain ⟨r4, M3, c2, hF⟩ := hb_some hF
  refine jv_callV hC (st := []) [] (k_Reader_takeOnce c2) mm_Reader_takeOnce mi_Reader_takeOnce ml_X5_69 dX5_readCloud_1 g1 rfl (Nat.le_of_ble_eq_true rfl) rfl rfl (Nat.le_of_ble_eq_true rfl) ?_
  refine jv_nf 4 [.int r4] rfl rfl ?_
  refine jv_istore_n hC [(1, .int r4), (0, .ref v0)] dX5_readCloud_4 (by decide) rfl ?_
  refine jv_iload_n hC 0 dX5_readCloud_5 rfl ?_
  refine jv_if_ne hC 17 dX5_readCloud_6 (by decide) (fun h5 => ?_) (fun h5 => ?_)
  · have hF := hi_neg h5 hF
    refine jv_sub [1, 0] (ls' := [(0, .ref v0), (1, .int r4)]) rfl ?_
    exact jv_pc 17 rfl (s_Reader_readCloud_1 hC hF)
  · have hF := hi_pos h5 hF
    refine jv_aload_n hC 1 dX5_readCloud_9 rfl ?_
    refine jv_iconst hC dX5_readCloud_10 c32_0 ?_
    refine jv_bipush hC dX5_readCloud_11 c8_8 ?_
    obtain ⟨r8, M7, c6, hF⟩ := hb_some hF
    refine jv_callV hC (st := []) [.int (0 : Int32), .int (8 : Int32)] (k_Reader_takeNumber c6) mm_Reader_takeNumber mi_Reader_takeNumber ml_X5_72 dX5_readCloud_13 g1 rfl (Nat.le_of_ble_eq_true rfl) rfl rfl (Nat.le_of_ble_eq_true rfl) ?_
    refine jv_nf 16 [.int r8] rfl rfl ?_
    refine jv_istore_n hC [(1, .int r8), (0, .ref v0)] dX5_readCloud_16 (by decide) rfl ?_
    refine jv_sub [1, 0] (ls' := [(0, .ref v0), (1, .int r8)]) rfl ?_
    exact jv_pc 17 rfl (s_Reader_readCloud_1 hC hF)
set_option maxRecDepth 100000 in
set_option maxHeartbeats 4000000 in
theorem s_Reader_readLine_1 {X : hm_X} {n : Nat} {S : hm_S} (hC : hm_C X RX5 cX5_readLine 1 (some .int) 156 n S) {v0 : Nat} {M : hm_M} {r : Int32} {M' : hm_M} (hF : b_Reader_readLine_1 S v0 M = some (r, M')) : hm_U X 83 [(0, .ref v0)] [] M (hm_Q X (some (.int r)) M') := by
  unfold b_Reader_readLine_1 at hF
  refine jv_aload_n hC 0 dX5_readLine_83 rfl ?_
  obtain ⟨g1, hF⟩ := hg_some hF
  obtain ⟨r4, M3, c2, hF⟩ := hb_some hF
  refine jv_callV hC (st := []) [] (k_Reader_readLaw c2) mm_Reader_readLaw mi_Reader_readLaw ml_X5_63 dX5_readLine_84 g1 rfl (Nat.le_of_ble_eq_true rfl) rfl rfl (Nat.le_of_ble_eq_true rfl) ?_
  refine jv_nf 87 [.int r4] rfl rfl ?_
  obtain ⟨rfl, rfl⟩ := hr_some hF
  exact jv_iret hC dX5_readLine_87
set_option maxRecDepth 100000 in
set_option maxHeartbeats 4000000 in
theorem k_Reader_readLine {n : Nat} {S : hm_S} {v0 : Nat} {M : hm_M} {r : Int32} {M' : hm_M} (hF : f_Reader_readLine S v0 M = some (r, M')) : hm_KM yX5_readLine cX5_readLine 1 (some .int) 156 n S [.ref v0] M (some (.int r)) M' := by
  refine hm_enter mm_Reader_readLine (Nat.le_of_ble_eq_true rfl) (fun X hC => ?_)
  show hm_U X 0 [(0, .ref v0)] [] M _
  unfold f_Reader_readLine at hF
  refine jv_aload_n hC 0 dX5_readLine_0 rfl ?_
  obtain ⟨g1, hF⟩ := hg_some hF
  obtain ⟨g2, hF⟩ := hg_some hF
  refine jv_getR hC fl_X5_12 dX5_readLine_1 rfl g1 g2 ?_
  obtain ⟨g3, hF⟩ := hg_some hF
  refine jv_getI hC fl_X5_41 dX5_readLine_4 rfl g3 ?_
  obtain ⟨x4, e5, hF⟩ := hl_some hF
  refine jv_topI e5 ?_
  by_cases h6 : x4 = (128 : Int32)
  · have hF := hi_pos h6 hF
    refine jv_tableIn hC 68 dX5_readLine_7 (by rw [h6]; decide) (by rw [h6]; decide) (by rw [h6]; rfl) (by decide) ?_
    refine jv_aload_n hC 0 dX5_readLine_68 rfl ?_
    obtain ⟨r9, M8, c7, hF⟩ := hb_some hF
    refine jv_callV hC (st := []) [] (k_Reader_readFloor c7) mm_Reader_readFloor mi_Reader_readFloor ml_X5_54 dX5_readLine_69 g1 rfl (Nat.le_of_ble_eq_true rfl) rfl rfl (Nat.le_of_ble_eq_true rfl) ?_
    refine jv_nf 72 [.int r9] rfl rfl ?_
    obtain ⟨rfl, rfl⟩ := hr_some hF
    exact jv_iret hC dX5_readLine_72
  have hF := hi_neg h6 hF
  by_cases h10 : x4 = (129 : Int32)
  · have hF := hi_pos h10 hF
    refine jv_tableIn hC 73 dX5_readLine_7 (by rw [h10]; decide) (by rw [h10]; decide) (by rw [h10]; rfl) (by decide) ?_
    refine jv_aload_n hC 0 dX5_readLine_73 rfl ?_
    obtain ⟨r13, M12, c11, hF⟩ := hb_some hF
    refine jv_callV hC (st := []) [] (k_Reader_readGuild c11) mm_Reader_readGuild mi_Reader_readGuild ml_X5_57 dX5_readLine_74 g1 rfl (Nat.le_of_ble_eq_true rfl) rfl rfl (Nat.le_of_ble_eq_true rfl) ?_
    refine jv_nf 77 [.int r13] rfl rfl ?_
    obtain ⟨rfl, rfl⟩ := hr_some hF
    exact jv_iret hC dX5_readLine_77
  have hF := hi_neg h10 hF
  by_cases h14 : x4 = (132 : Int32)
  · have hF := hi_pos h14 hF
    refine jv_tableIn hC 78 dX5_readLine_7 (by rw [h14]; decide) (by rw [h14]; decide) (by rw [h14]; rfl) (by decide) ?_
    refine jv_aload_n hC 0 dX5_readLine_78 rfl ?_
    obtain ⟨r17, M16, c15, hF⟩ := hb_some hF
    refine jv_callV hC (st := []) [] (k_Reader_readPane c15) mm_Reader_readPane mi_Reader_readPane ml_X5_60 dX5_readLine_79 g1 rfl (Nat.le_of_ble_eq_true rfl) rfl rfl (Nat.le_of_ble_eq_true rfl) ?_
    refine jv_nf 82 [.int r17] rfl rfl ?_
    obtain ⟨rfl, rfl⟩ := hr_some hF
    exact jv_iret hC dX5_readLine_82
  have hF := hi_neg h14 hF
  by_cases h18 : x4 = (135 : Int32)
  · have hF := hi_pos h18 hF
    refine jv_tableIn hC 83 dX5_readLine_7 (by rw [h18]; decide) (by rw [h18]; decide) (by rw [h18]; rfl) (by decide) ?_
    exact jv_pc 83 rfl (s_Reader_readLine_1 hC hF)
  have hF := hi_neg h18 hF
  by_cases h19 : x4 = (136 : Int32)
  · have hF := hi_pos h19 hF
    refine jv_tableIn hC 83 dX5_readLine_7 (by rw [h19]; decide) (by rw [h19]; decide) (by rw [h19]; rfl) (by decide) ?_
    exact jv_pc 83 rfl (s_Reader_readLine_1 hC hF)
  have hF := hi_neg h19 hF
  by_cases h20 : x4 = (137 : Int32)
  · have hF := hi_pos h20 hF
    refine jv_tableIn hC 83 dX5_readLine_7 (by rw [h20]; decide) (by rw [h20]; decide) (by rw [h20]; rfl) (by decide) ?_
    exact jv_pc 83 rfl (s_Reader_readLine_1 hC hF)
  have hF := hi_neg h20 hF
  by_cases h21 : x4 = (138 : Int32)
  · have hF := hi_pos h21 hF
    refine jv_tableIn hC 83 dX5_readLine_7 (by rw [h21]; decide) (by rw [h21]; decide) (by rw [h21]; rfl) (by decide) ?_
    exact jv_pc 83 rfl (s_Reader_readLine_1 hC hF)
  have hF := hi_neg h21 hF
  by_cases h22 : x4 = (139 : Int32)
  · have hF := hi_pos h22 hF
    refine jv_tableIn hC 88 dX5_readLine_7 (by rw [h22]; decide) (by rw [h22]; decide) (by rw [h22]; rfl) (by decide) ?_
    refine jv_aload_n hC 0 dX5_readLine_88 rfl ?_
    obtain ⟨r25, M24, c23, hF⟩ := hb_some hF
    refine jv_callV hC (st := []) [] (k_Reader_readCloud c23) mm_Reader_readCloud mi_Reader_readCloud ml_X5_66 dX5_readLine_89 g1 rfl (Nat.le_of_ble_eq_true rfl) rfl rfl (Nat.le_of_ble_eq_true rfl) ?_
    refine jv_nf 92 [.int r25] rfl rfl ?_
    obtain ⟨rfl, rfl⟩ := hr_some hF
    exact jv_iret hC dX5_readLine_92
  have hF := hi_neg h22 hF
  have kD : hm_U X 93 [(0, .ref v0)] [] M (hm_Q X (some (.int r)) M') := by
    refine jv_iconst hC dX5_readLine_93 c32_1 ?_
    obtain ⟨rfl, rfl⟩ := hr_some hF
    exact jv_iret hC dX5_readLine_94
  by_cases h26 : x4 = (130 : Int32)
  · exact jv_tableIn hC 93 dX5_readLine_7 (by rw [h26]; decide) (by rw [h26]; decide) (by rw [h26]; rfl) (by decide) kD
  by_cases h27 : x4 = (131 : Int32)
  · exact jv_tableIn hC 93 dX5_readLine_7 (by rw [h27]; decide) (by rw [h27]; decide) (by rw [h27]; rfl) (by decide) kD
  by_cases h28 : x4 = (133 : Int32)
  · exact jv_tableIn hC 93 dX5_readLine_7 (by rw [h28]; decide) (by rw [h28]; decide) (by rw [h28]; rfl) (by decide) kD
  by_cases h29 : x4 = (134 : Int32)
  · exact jv_tableIn hC 93 dX5_readLine_7 (by rw [h29]; decide) (by rw [h29]; decide) (by rw [h29]; rfl) (by decide) kD
  exact jv_tableOut hC 93 dX5_readLine_7 (by have := hm_out (c := 128) (by decide) h6; have := hm_out (c := 129) (by decide) h10; have := hm_out (c := 132) (by decide) h14; have := hm_out (c := 135) (by decide) h18; have := hm_out (c := 136) (by decide) h19; have := hm_out (c := 137) (by decide) h20; have := hm_out (c := 138) (by decide) h21; have := hm_out (c := 139) (by decide) h22; have := hm_out (c := 130) (by decide) h26; have := hm_out (c := 131) (by decide) h27; have := hm_out (c := 133) (by decide) h28; have := hm_out (c := 134) (by decide) h29; omega) (by decide) kD
set_option maxRecDepth 100000 in
set_option maxHeartbeats 4000000 in
theorem s_Reader_readAll_2 {X : hm_X} {n : Nat} {S : hm_S} (hC : hm_C X RX5 cX5_readAll 3 (some .int) 157 n S) {v0 : Nat} {v1 : Int32} {M : hm_M} {r : Int32} {M' : hm_M} (hF : b_Reader_readAll_2 S v0 v1 M = some (r, M')) : hm_U X 56 [(0, .ref v0), (1, .int v1)] [] M (hm_Q X (some (.int r)) M') := by
  unfold b_Reader_readAll_2 at hF
  refine jv_aload_n hC 0 dX5_readAll_56 rfl ?_
  obtain ⟨g1, hF⟩ := hg_some hF
  obtain ⟨g2, hF⟩ := hg_some hF
  refine jv_getR hC fl_X5_12 dX5_readAll_57 rfl g1 g2 ?_
  refine jv_iconst hC dX5_readAll_60 c32_0 ?_
  obtain ⟨g3, hF⟩ := hg_some hF
  refine jv_putI hC fl_X5_48 dX5_readAll_61 rfl rfl rfl g3 ?_
  obtain ⟨M4, e5, hF⟩ := hl_some hF
  refine jv_mem e5 ?_
  refine jv_iload_n hC 1 dX5_readAll_64 rfl ?_
  refine jv_if_ne hC 72 dX5_readAll_65 (by decide) (fun h6 => ?_) (fun h6 => ?_)
  · have hF := hi_neg h6 hF
    refine jv_iload_n hC 1 dX5_readAll_72 rfl ?_
    refine jv_bipush hC dX5_readAll_73 c8_16 ?_
    refine jv_aload_n hC 0 dX5_readAll_75 rfl ?_
    obtain ⟨g7, hF⟩ := hg_some hF
    refine jv_getR hC fl_X5_12 dX5_readAll_76 rfl g1 g7 ?_
    obtain ⟨g8, hF⟩ := hg_some hF
    refine jv_getI hC fl_X5_51 dX5_readAll_79 rfl g8 ?_
    refine jv_imul hC dX5_readAll_82 ?_
    refine jv_iadd hC dX5_readAll_83 ?_
    refine jv_pc 84 rfl ?_
    obtain ⟨rfl, rfl⟩ := hr_some hF
    exact jv_iret hC dX5_readAll_84
  · have hF := hi_pos h6 hF
    refine jv_iconst hC dX5_readAll_68 c32_0 ?_
    refine jv_goto hC 84 dX5_readAll_69 (by decide) ?_
    obtain ⟨rfl, rfl⟩ := hr_some hF
    exact jv_iret hC dX5_readAll_84
set_option maxRecDepth 100000 in
set_option maxHeartbeats 4000000 in
theorem t_Reader_readAll_1 {X : hm_X} {n : Nat} {S : hm_S} (hC : hm_C X RX5 cX5_readAll 3 (some .int) 157 n S) {k23 : Nat → Int32 → Int32 → hm_M → Option (Int32 × hm_M)} (hk23 : ∀ (v0 : Nat) (v1 : Int32) (v2 : Int32)  (M : hm_M) (r : Int32) (M' : hm_M), k23 v0 v1 v2 M = some (r, M') → hm_U X 23 [(0, .ref v0), (1, .int v1), (2, .int v2)] [] M (hm_Q X (some (.int r)) M')) {v0 : Nat} {v1 : Int32} {v2 : Int32} {M : hm_M} {r : Int32} {M' : hm_M} (hF : b_Reader_readAll_1 S k23 v0 v1 v2 M = some (r, M')) : hm_U X 23 [(0, .ref v0), (1, .int v1), (2, .int v2)] [] M (hm_Q X (some (.int r)) M') := by
  unfold b_Reader_readAll_1 at hF
  refine jv_iload_n hC 2 dX5_readAll_23 rfl ?_
  refine jv_sipush hC dX5_readAll_24 c16_1000 ?_
  refine jv_icmp_gt hC 56 dX5_readAll_27 (by decide) (fun h1 => ?_) (fun h1 => ?_)
  · have hF := hi_pos h1 hF
    refine jv_sub [0, 1] (ls' := [(0, .ref v0), (1, .int v1)]) rfl ?_
    exact jv_pc 56 rfl (s_Reader_readAll_2 hC hF)
  · have hF := hi_neg h1 hF
    refine jv_iload_n hC 1 dX5_readAll_30 rfl ?_
    refine jv_if_ne hC 56 dX5_readAll_31 (by decide) (fun h2 => ?_) (fun h2 => ?_)
    · have hF := hi_neg h2 hF
      refine jv_sub [0, 1] (ls' := [(0, .ref v0), (1, .int v1)]) rfl ?_
      exact jv_pc 56 rfl (s_Reader_readAll_2 hC hF)
    · have hF := hi_pos h2 hF
      refine jv_aload_n hC 0 dX5_readAll_34 rfl ?_
      obtain ⟨g3, hF⟩ := hg_some hF
      obtain ⟨g4, hF⟩ := hg_some hF
      refine jv_getR hC fl_X5_12 dX5_readAll_35 rfl g3 g4 ?_
      obtain ⟨g5, hF⟩ := hg_some hF
      refine jv_getI hC fl_X5_41 dX5_readAll_38 rfl g5 ?_
      refine jv_iconst hC dX5_readAll_41 c32_1 ?_
      refine jv_icmp_eq hC 56 dX5_readAll_42 (by decide) (fun h6 => ?_) (fun h6 => ?_)
      · have hF := hi_pos h6 hF
        refine jv_sub [0, 1] (ls' := [(0, .ref v0), (1, .int v1)]) rfl ?_
        exact jv_pc 56 rfl (s_Reader_readAll_2 hC hF)
      · have hF := hi_neg h6 hF
        refine jv_aload_n hC 0 dX5_readAll_45 rfl ?_
        obtain ⟨r9, M8, c7, hF⟩ := hb_some hF
        refine jv_callV hC (st := []) [] (k_Reader_readLine c7) mm_Reader_readLine mi_Reader_readLine ml_X5_44 dX5_readAll_46 g3 rfl (Nat.le_of_ble_eq_true rfl) rfl rfl (Nat.le_of_ble_eq_true rfl) ?_
        refine jv_nf 49 [.int r9] rfl rfl ?_
        refine jv_istore_n hC [(1, .int r9), (0, .ref v0), (2, .int v2)] dX5_readAll_49 (by decide) rfl ?_
        refine jv_iinc hC 2 [(2, .int (v2 + (1 : Int32))), (1, .int r9), (0, .ref v0)] dX5_readAll_50 rfl c32_1 (by decide) rfl ?_
        refine jv_goto hC 23 dX5_readAll_53 (by decide) ?_
        refine jv_sub [2, 1, 0] (ls' := [(0, .ref v0), (1, .int r9), (2, .int (v2 + (1 : Int32)))]) rfl ?_
        exact jv_pc 23 rfl (hk23 _ _ _ _ _ _ hF)
theorem s_Reader_readAll_1 {X : hm_X} {n : Nat} {S : hm_S} (hC : hm_C X RX5 cX5_readAll 3 (some .int) 157 n S) : ∀ (q : Nat) (v0 : Nat) (v1 : Int32) (v2 : Int32) (M : hm_M) (r : Int32) (M' : hm_M), f_Reader_readAll_1 S  q v0 v1 v2 M = some (r, M') → hm_U X 23 [(0, .ref v0), (1, .int v1), (2, .int v2)] [] M (hm_Q X (some (.int r)) M') := by
  intro q
  induction q with
  | zero => intro v0 v1 v2 M r M' hF; cases hF
  | succ q ih => intro v0 v1 v2 M r M' hF; exact t_Reader_readAll_1 hC ih hF
set_option maxRecDepth 100000 in
set_option maxHeartbeats 4000000 in
theorem k_Reader_readAll {n : Nat} {S : hm_S} {v0 : Nat} {M : hm_M} {r : Int32} {M' : hm_M} (hF : f_Reader_readAll S v0 M = some (r, M')) : hm_KM yX5_readAll cX5_readAll 3 (some .int) 157 n S [.ref v0] M (some (.int r)) M' := by
  refine hm_enter mm_Reader_readAll (Nat.le_of_ble_eq_true rfl) (fun X hC => ?_)
  show hm_U X 0 [(0, .ref v0)] [] M _
  unfold f_Reader_readAll at hF
  refine jv_aload_n hC 0 dX5_readAll_0 rfl ?_
  obtain ⟨g1, hF⟩ := hg_some hF
  obtain ⟨g2, hF⟩ := hg_some hF
  refine jv_getR hC fl_X5_21 dX5_readAll_1 rfl g1 g2 ?_
  obtain ⟨g3, hF⟩ := hg_some hF
  obtain ⟨M5, c4, hF⟩ := hv_some hF
  refine jv_callV hC (st := []) [] (k_Chapel_begin c4) mm_Chapel_begin mi_Chapel_begin ml_X5_35 dX5_readAll_4 g3 rfl (Nat.le_of_ble_eq_true rfl) rfl rfl (Nat.le_of_ble_eq_true rfl) ?_
  refine jv_nf 7 [] rfl rfl ?_
  refine jv_aload_n hC 0 dX5_readAll_7 rfl ?_
  refine jv_iconst hC dX5_readAll_8 c32_0 ?_
  refine jv_putI hC fl_X5_25 dX5_readAll_9 rfl rfl rfl g1 ?_
  obtain ⟨M6, e7, hF⟩ := hl_some hF
  refine jv_mem e7 ?_
  refine jv_aload_n hC 0 dX5_readAll_12 rfl ?_
  obtain ⟨g8, hF⟩ := hg_some hF
  refine jv_getR hC fl_X5_12 dX5_readAll_13 rfl g1 g8 ?_
  obtain ⟨g9, hF⟩ := hg_some hF
  obtain ⟨M11, c10, hF⟩ := hv_some hF
  refine jv_callV hC (st := []) [] (k_Tape_rewind c10) mm_Tape_rewind mi_Tape_rewind ml_X5_38 dX5_readAll_16 g9 rfl (Nat.le_of_ble_eq_true rfl) rfl rfl (Nat.le_of_ble_eq_true rfl) ?_
  refine jv_nf 19 [] rfl rfl ?_
  refine jv_iconst hC dX5_readAll_19 c32_0 ?_
  refine jv_istore_n hC [(1, .int (0 : Int32)), (0, .ref v0)] dX5_readAll_20 (by decide) rfl ?_
  refine jv_iconst hC dX5_readAll_21 c32_0 ?_
  refine jv_istore_n hC [(2, .int (0 : Int32)), (1, .int (0 : Int32)), (0, .ref v0)] dX5_readAll_22 (by decide) rfl ?_
  refine jv_sub [2, 1, 0] (ls' := [(0, .ref v0), (1, .int (0 : Int32)), (2, .int (0 : Int32))]) rfl ?_
  exact jv_pc 23 rfl (s_Reader_readAll_1 hC hN _ _ _ _ _ _ hF)
set_option maxRecDepth 100000 in
set_option maxHeartbeats 4000000 in
theorem k_Light_enter {n : Nat} {S : hm_S} {v0 : Nat} {v1 : Nat} {M : hm_M} {r : Nat} {M' : hm_M} (hF : f_Light_enter S v0 v1 M = some (r, M')) : hm_KM yX4_enter cX4_enter 3 (some (.object "PaneSpots$Chapel")) 2 n S [.ref v0, .ref v1] M (some (.ref r)) M' := by
  refine hm_enter mm_Light_enter (Nat.le_of_ble_eq_true rfl) (fun X hC => ?_)
  show hm_U X 0 [(0, .ref v0), (1, .ref v1)] [] M _
  unfold f_Light_enter at hF
  refine jv_aload_n hC 0 dX4_enter_0 rfl ?_
  obtain ⟨g1, hF⟩ := hg_some hF
  obtain ⟨g2, hF⟩ := hg_some hF
  refine jv_getR hC fl_X4_12 dX4_enter_1 rfl g1 g2 ?_
  obtain ⟨x3, e4, hF⟩ := hl_some hF
  refine jv_topR e4 ?_
  refine jv_astore_n hC [(2, .ref x3), (0, .ref v0), (1, .ref v1)] dX4_enter_4 (by decide) rfl ?_
  refine jv_aload_n hC 1 dX4_enter_5 rfl ?_
  refine jv_aload_n hC 2 dX4_enter_6 rfl ?_
  obtain ⟨g5, hF⟩ := hg_some hF
  refine jv_putR hC fl_X4_12 dX4_enter_7 rfl g1 g5 ?_
  obtain ⟨M6, e7, hF⟩ := hl_some hF
  refine jv_mem e7 ?_
  refine jv_aload_n hC 1 dX4_enter_10 rfl ?_
  refine jv_pc 11 rfl ?_
  refine jv_iconst hC dX4_enter_11 c32_m1 ?_
  refine jv_putI hC fl_X4_26 dX4_enter_12 rfl rfl rfl g1 ?_
  obtain ⟨M8, e9, hF⟩ := hl_some hF
  refine jv_mem e9 ?_
  refine jv_aload_n hC 1 dX4_enter_15 rfl ?_
  obtain ⟨g10, hF⟩ := hg_some hF
  refine jv_getR hC fl_X4_22 dX4_enter_16 rfl g1 g10 ?_
  refine jv_lconst hC (v := 0) dX4_enter_19 (by decide) ?_
  obtain ⟨M12, c11, hF⟩ := hv_some hF
  refine jv_callS hC (st := []) [.ref (M8.2.2 v0 2), .long (0 : Int64)] (k_J7_fill_d0a16 c11) mm_J7_fill_d0a16 ms_J7_fill_d0a16 ml_X4_30 dX4_enter_20 (Nat.le_of_ble_eq_true rfl) rfl rfl (Nat.le_of_ble_eq_true rfl) ?_
  refine jv_nf 23 [] rfl rfl ?_
  refine jv_aload_n hC 0 dX4_enter_23 rfl ?_
  obtain ⟨rfl, rfl⟩ := hr_some hF
  exact jv_aret hC dX4_enter_24
set_option maxRecDepth 100000 in
set_option maxHeartbeats 4000000 in
theorem s_Hold_begin_2 {X : hm_X} {n : Nat} {S : hm_S} (hC : hm_C X RX2 cX2_begin 3 none 1 n S) {k20 : Nat → Nat → Int32 → hm_M → Option hm_M} (hk20 : ∀ (v0 : Nat) (v1 : Nat) (v2 : Int32)  (M : hm_M) (M' : hm_M), k20 v0 v1 v2 M = some M' → hm_U X 20 [(0, .ref v0), (1, .ref v1), (2, .int v2)] [] M (hm_Q X none M')) {v0 : Nat} {v1 : Nat} {v2 : Int32} {s0 : Int32} {s1 : Int32} {s2 : Nat} {M : hm_M} {M' : hm_M} (hF : b_Hold_begin_2 S k20 v0 v1 v2 s0 s1 s2 M = some M') : hm_U X 49 [(0, .ref v0), (1, .ref v1), (2, .int v2)] [.int s0, .int s1, .ref s2] M (hm_Q X none M') := by
  unfold b_Hold_begin_2 at hF
  obtain ⟨g1, hF⟩ := hg_some hF
  obtain ⟨n2, sn2, in2⟩ := hm_ib_ok g1
  refine jv_iastore hC dX2_begin_49 sn2 in2 ?_
  obtain ⟨M3, e4, hF⟩ := hl_some hF
  refine jv_mem e4 ?_
  refine jv_iinc hC 2 [(2, .int (v2 + (1 : Int32))), (0, .ref v0), (1, .ref v1)] dX2_begin_50 rfl c32_1 (by decide) rfl ?_
  refine jv_goto hC 20 dX2_begin_53 (by decide) ?_
  refine jv_sub [1, 2, 0] (ls' := [(0, .ref v0), (1, .ref v1), (2, .int (v2 + (1 : Int32)))]) rfl ?_
  exact jv_pc 20 rfl (hk20 _ _ _ _ _ hF)
set_option maxRecDepth 100000 in
set_option maxHeartbeats 4000000 in
theorem t_Hold_begin_1 {X : hm_X} {n : Nat} {S : hm_S} (hC : hm_C X RX2 cX2_begin 3 none 1 n S) {k20 : Nat → Nat → Int32 → hm_M → Option hm_M} (hk20 : ∀ (v0 : Nat) (v1 : Nat) (v2 : Int32)  (M : hm_M) (M' : hm_M), k20 v0 v1 v2 M = some M' → hm_U X 20 [(0, .ref v0), (1, .ref v1), (2, .int v2)] [] M (hm_Q X none M')) {v0 : Nat} {v1 : Nat} {v2 : Int32} {M : hm_M} {M' : hm_M} (hF : b_Hold_begin_1 S k20 v0 v1 v2 M = some M') : hm_U X 20 [(0, .ref v0), (1, .ref v1), (2, .int v2)] [] M (hm_Q X none M') := by
  unfold b_Hold_begin_1 at hF
  refine jv_iload_n hC 2 dX2_begin_20 rfl ?_
  refine jv_bipush hC dX2_begin_21 c8_12 ?_
  refine jv_icmp_ge hC 56 dX2_begin_23 (by decide) (fun h1 => ?_) (fun h1 => ?_)
  · have hF := hi_pos h1 hF
    obtain rfl := hr_somev hF
    exact jv_vret hC dX2_begin_56
  · have hF := hi_neg h1 hF
    refine jv_aload_n hC 0 dX2_begin_26 rfl ?_
    obtain ⟨g2, hF⟩ := hg_some hF
    obtain ⟨g3, hF⟩ := hg_some hF
    refine jv_getR hC fl_X2_9 dX2_begin_27 rfl g2 g3 ?_
    refine jv_iload_n hC 2 dX2_begin_30 rfl ?_
    refine jv_iload_n hC 2 dX2_begin_31 rfl ?_
    refine jv_aload_n hC 0 dX2_begin_32 rfl ?_
    refine jv_getI hC fl_X2_28 dX2_begin_33 rfl g2 ?_
    refine jv_icmp_ge hC 48 dX2_begin_36 (by decide) (fun h4 => ?_) (fun h4 => ?_)
    · have hF := hi_pos h4 hF
      refine jv_iconst hC dX2_begin_48 c32_m1 ?_
      exact jv_pc 49 rfl (s_Hold_begin_2 hC hk20 hF)
    · have hF := hi_neg h4 hF
      refine jv_aload_n hC 1 dX2_begin_39 rfl ?_
      obtain ⟨g5, hF⟩ := hg_some hF
      obtain ⟨g6, hF⟩ := hg_some hF
      refine jv_getR hC fl_X2_34 dX2_begin_40 rfl g5 g6 ?_
      refine jv_iload_n hC 2 dX2_begin_43 rfl ?_
      obtain ⟨g7, hF⟩ := hg_some hF
      obtain ⟨n8, sn8, in8⟩ := hm_ib_ok g7
      refine jv_iaload hC dX2_begin_44 sn8 in8 ?_
      refine jv_goto hC 49 dX2_begin_45 (by decide) ?_
      exact jv_pc 49 rfl (s_Hold_begin_2 hC hk20 hF)
theorem s_Hold_begin_1 {X : hm_X} {n : Nat} {S : hm_S} (hC : hm_C X RX2 cX2_begin 3 none 1 n S) : ∀ (q : Nat) (v0 : Nat) (v1 : Nat) (v2 : Int32) (M : hm_M) (M' : hm_M), f_Hold_begin_1 S  q v0 v1 v2 M = some M' → hm_U X 20 [(0, .ref v0), (1, .ref v1), (2, .int v2)] [] M (hm_Q X none M') := by
  intro q
  induction q with
  | zero => intro v0 v1 v2 M M' hF; cases hF
  | succ q ih => intro v0 v1 v2 M M' hF; exact t_Hold_begin_1 hC ih hF
set_option maxRecDepth 100000 in
set_option maxHeartbeats 4000000 in
theorem k_Hold_begin {n : Nat} {S : hm_S} {v0 : Nat} {v1 : Nat} {M : hm_M} {M' : hm_M} (hF : f_Hold_begin S v0 v1 M = some M') : hm_KM yX2_begin cX2_begin 3 none 1 n S [.ref v0, .ref v1] M none M' := by
  refine hm_enter mm_Hold_begin (Nat.le_of_ble_eq_true rfl) (fun X hC => ?_)
  show hm_U X 0 [(0, .ref v0), (1, .ref v1)] [] M _
  unfold f_Hold_begin at hF
  refine jv_aload_n hC 0 dX2_begin_0 rfl ?_
  refine jv_aload_n hC 1 dX2_begin_1 rfl ?_
  obtain ⟨g1, hF⟩ := hg_some hF
  refine jv_getI hC fl_X2_31 dX2_begin_2 rfl g1 ?_
  obtain ⟨g2, hF⟩ := hg_some hF
  refine jv_putI hC fl_X2_28 dX2_begin_5 rfl rfl rfl g2 ?_
  obtain ⟨M3, e4, hF⟩ := hl_some hF
  refine jv_mem e4 ?_
  refine jv_aload_n hC 0 dX2_begin_8 rfl ?_
  refine jv_iconst hC dX2_begin_9 c32_0 ?_
  refine jv_putI hC fl_X2_15 dX2_begin_10 rfl rfl rfl g2 ?_
  obtain ⟨M5, e6, hF⟩ := hl_some hF
  refine jv_mem e6 ?_
  refine jv_pc 13 rfl ?_
  refine jv_aload_n hC 0 dX2_begin_13 rfl ?_
  refine jv_iconst hC dX2_begin_14 c32_0 ?_
  refine jv_putI hC fl_X2_19 dX2_begin_15 rfl rfl rfl g2 ?_
  obtain ⟨M7, e8, hF⟩ := hl_some hF
  refine jv_mem e8 ?_
  refine jv_iconst hC dX2_begin_18 c32_0 ?_
  refine jv_istore_n hC [(2, .int (0 : Int32)), (0, .ref v0), (1, .ref v1)] dX2_begin_19 (by decide) rfl ?_
  refine jv_sub [1, 2, 0] (ls' := [(0, .ref v0), (1, .ref v1), (2, .int (0 : Int32))]) rfl ?_
  exact jv_pc 20 rfl (s_Hold_begin_1 hC hN _ _ _ _ _ hF)
set_option maxRecDepth 100000 in
set_option maxHeartbeats 4000000 in
theorem k_History_forget {n : Nat} {S : hm_S} {v0 : Nat} {M : hm_M} {M' : hm_M} (hF : f_History_forget S v0 M = some M') : hm_KM yX1_forget cX1_forget 1 none 1 n S [.ref v0] M none M' := by
  refine hm_enter mm_History_forget (Nat.le_of_ble_eq_true rfl) (fun X hC => ?_)
  show hm_U X 0 [(0, .ref v0)] [] M _
  unfold f_History_forget at hF
  refine jv_aload_n hC 0 dX1_forget_0 rfl ?_
  refine jv_iconst hC dX1_forget_1 c32_0 ?_
  obtain ⟨g1, hF⟩ := hg_some hF
  refine jv_putI hC fl_X1_18 dX1_forget_2 rfl rfl rfl g1 ?_
  obtain ⟨M2, e3, hF⟩ := hl_some hF
  refine jv_mem e3 ?_
  refine jv_aload_n hC 0 dX1_forget_5 rfl ?_
  refine jv_iconst hC dX1_forget_6 c32_0 ?_
  refine jv_putI hC fl_X1_22 dX1_forget_7 rfl rfl rfl g1 ?_
  obtain ⟨M4, e5, hF⟩ := hl_some hF
  refine jv_mem e5 ?_
  obtain rfl := hr_somev hF
  exact jv_vret hC dX1_forget_10
set_option maxRecDepth 100000 in
set_option maxHeartbeats 4000000 in
theorem k_Rents_forget {n : Nat} {S : hm_S} {v0 : Nat} {M : hm_M} {M' : hm_M} (hF : f_Rents_forget S v0 M = some M') : hm_KM yX6_forget cX6_forget 1 none 1 n S [.ref v0] M none M' := by
  refine hm_enter mm_Rents_forget (Nat.le_of_ble_eq_true rfl) (fun X hC => ?_)
  show hm_U X 0 [(0, .ref v0)] [] M _
  unfold f_Rents_forget at hF
  refine jv_aload_n hC 0 dX6_forget_0 rfl ?_
  refine jv_iconst hC dX6_forget_1 c32_0 ?_
  obtain ⟨g1, hF⟩ := hg_some hF
  refine jv_putI hC fl_X6_18 dX6_forget_2 rfl rfl rfl g1 ?_
  obtain ⟨M2, e3, hF⟩ := hl_some hF
  refine jv_mem e3 ?_
  refine jv_aload_n hC 0 dX6_forget_5 rfl ?_
  refine jv_iconst hC dX6_forget_6 c32_0 ?_
  refine jv_putI hC fl_X6_22 dX6_forget_7 rfl rfl rfl g1 ?_
  obtain ⟨M4, e5, hF⟩ := hl_some hF
  refine jv_mem e5 ?_
  obtain rfl := hr_somev hF
  exact jv_vret hC dX6_forget_10
set_option maxRecDepth 100000 in
set_option maxHeartbeats 4000000 in
theorem k_Ps_chapel {n : Nat} {S : hm_S} {v0 : Nat} {M : hm_M} {r : Int32} {M' : hm_M} (hF : f_Ps_chapel S v0 M = some (r, M')) : hm_KM yX11_chapel cX11_chapel 2 (some .int) 158 n S [.ref v0] M (some (.int r)) M' := by
  refine hm_enter mm_Ps_chapel (Nat.le_of_ble_eq_true rfl) (fun X hC => ?_)
  show hm_U X 0 [(0, .ref v0)] [] M _
  unfold f_Ps_chapel at hF
  refine jv_aload_n hC 0 dX11_chapel_0 rfl ?_
  obtain ⟨g1, hF⟩ := hg_some hF
  obtain ⟨g2, hF⟩ := hg_some hF
  refine jv_getR hC fl_X11_12 dX11_chapel_1 rfl g1 g2 ?_
  obtain ⟨g3, hF⟩ := hg_some hF
  obtain ⟨r6, M5, c4, hF⟩ := hb_some hF
  refine jv_callV hC (st := []) [] (k_Reader_readAll c4) mm_Reader_readAll mi_Reader_readAll ml_X11_86 dX11_chapel_4 g3 rfl (Nat.le_of_ble_eq_true rfl) rfl rfl (Nat.le_of_ble_eq_true rfl) ?_
  refine jv_nf 7 [.int r6] rfl rfl ?_
  refine jv_istore_n hC [(1, .int r6), (0, .ref v0)] dX11_chapel_7 (by decide) rfl ?_
  refine jv_iload_n hC 0 dX11_chapel_8 rfl ?_
  refine jv_if_ne hC 66 dX11_chapel_9 (by decide) (fun h7 => ?_) (fun h7 => ?_)
  · have hF := hi_neg h7 hF
    refine jv_iload_n hC 0 dX11_chapel_66 rfl ?_
    obtain ⟨rfl, rfl⟩ := hr_some hF
    exact jv_iret hC dX11_chapel_67
  · have hF := hi_pos h7 hF
    refine jv_aload_n hC 1 dX11_chapel_12 rfl ?_
    obtain ⟨g8, hF⟩ := hg_some hF
    refine jv_getR hC fl_X11_12 dX11_chapel_13 rfl g1 g8 ?_
    refine jv_aload_n hC 1 dX11_chapel_16 rfl ?_
    obtain ⟨g9, hF⟩ := hg_some hF
    refine jv_getR hC fl_X11_19 dX11_chapel_17 rfl g1 g9 ?_
    refine jv_aload_n hC 1 dX11_chapel_20 rfl ?_
    refine jv_getR hC fl_X11_12 dX11_chapel_21 rfl g1 g8 ?_
    obtain ⟨g10, hF⟩ := hg_some hF
    obtain ⟨g11, hF⟩ := hg_some hF
    refine jv_getR hC fl_X11_90 dX11_chapel_24 rfl g10 g11 ?_
    refine jv_pc 27 rfl ?_
    obtain ⟨g12, hF⟩ := hg_some hF
    obtain ⟨r15, M14, c13, hF⟩ := hb_some hF
    refine jv_callV hC (st := [.ref (M5.2.2 v0 0)]) [.ref (M5.2.2 (M5.2.2 v0 0) 1)] (k_Light_enter c13) mm_Light_enter mi_Light_enter ml_X11_94 dX11_chapel_27 g12 rfl (Nat.le_of_ble_eq_true rfl) rfl rfl (Nat.le_of_ble_eq_true rfl) ?_
    refine jv_nf 30 [.ref r15, .ref (M5.2.2 v0 0)] rfl rfl ?_
    obtain ⟨g16, hF⟩ := hg_some hF
    refine jv_putR hC fl_X11_90 dX11_chapel_30 rfl g10 g16 ?_
    obtain ⟨M17, e18, hF⟩ := hl_some hF
    refine jv_mem e18 ?_
    refine jv_aload_n hC 1 dX11_chapel_33 rfl ?_
    obtain ⟨g19, hF⟩ := hg_some hF
    refine jv_getR hC fl_X11_26 dX11_chapel_34 rfl g1 g19 ?_
    refine jv_aload_n hC 1 dX11_chapel_37 rfl ?_
    obtain ⟨g20, hF⟩ := hg_some hF
    refine jv_getR hC fl_X11_19 dX11_chapel_38 rfl g1 g20 ?_
    obtain ⟨g21, hF⟩ := hg_some hF
    obtain ⟨g22, hF⟩ := hg_some hF
    refine jv_getR hC fl_X11_98 dX11_chapel_41 rfl g21 g22 ?_
    obtain ⟨g23, hF⟩ := hg_some hF
    obtain ⟨M25, c24, hF⟩ := hv_some hF
    refine jv_callV hC (st := []) [.ref (M17.2.2 (M17.2.2 v0 1) 0)] (k_Hold_begin c24) mm_Hold_begin mi_Hold_begin ml_X11_101 dX11_chapel_44 g23 rfl (Nat.le_of_ble_eq_true rfl) rfl rfl (Nat.le_of_ble_eq_true rfl) ?_
    refine jv_nf 47 [] rfl rfl ?_
    refine jv_aload_n hC 1 dX11_chapel_47 rfl ?_
    obtain ⟨g26, hF⟩ := hg_some hF
    refine jv_getR hC fl_X11_33 dX11_chapel_48 rfl g1 g26 ?_
    obtain ⟨g27, hF⟩ := hg_some hF
    obtain ⟨M29, c28, hF⟩ := hv_some hF
    refine jv_callV hC (st := []) [] (k_History_forget c28) mm_History_forget mi_History_forget ml_X11_105 dX11_chapel_51 g27 rfl (Nat.le_of_ble_eq_true rfl) rfl rfl (Nat.le_of_ble_eq_true rfl) ?_
    refine jv_nf 54 [] rfl rfl ?_
    refine jv_aload_n hC 1 dX11_chapel_54 rfl ?_
    obtain ⟨g30, hF⟩ := hg_some hF
    refine jv_getR hC fl_X11_40 dX11_chapel_55 rfl g1 g30 ?_
    obtain ⟨g31, hF⟩ := hg_some hF
    obtain ⟨M33, c32, hF⟩ := hv_some hF
    refine jv_callV hC (st := []) [] (k_Rents_forget c32) mm_Rents_forget mi_Rents_forget ml_X11_108 dX11_chapel_58 g31 rfl (Nat.le_of_ble_eq_true rfl) rfl rfl (Nat.le_of_ble_eq_true rfl) ?_
    refine jv_nf 61 [] rfl rfl ?_
    refine jv_aload_n hC 1 dX11_chapel_61 rfl ?_
    refine jv_iconst hC dX11_chapel_62 c32_0 ?_
    refine jv_putI hC fl_X11_69 dX11_chapel_63 rfl rfl rfl g1 ?_
    obtain ⟨M34, e35, hF⟩ := hl_some hF
    refine jv_mem e35 ?_
    refine jv_iload_n hC 0 dX11_chapel_66 rfl ?_
    obtain ⟨rfl, rfl⟩ := hr_some hF
    exact jv_iret hC dX11_chapel_67
set_option maxRecDepth 100000 in
set_option maxHeartbeats 4000000 in
theorem k_Ps_clear {n : Nat} {S : hm_S} {v0 : Nat} {M : hm_M} {r : Int32} {M' : hm_M} (hF : f_Ps_clear S v0 M = some (r, M')) : hm_KM yX11_clear cX11_clear 1 (some .boolean) 1 n S [.ref v0] M (some (.int r)) M' := by
  refine hm_enter mm_Ps_clear (Nat.le_of_ble_eq_true rfl) (fun X hC => ?_)
  show hm_U X 0 [(0, .ref v0)] [] M _
  unfold f_Ps_clear at hF
  refine jv_aload_n hC 0 dX11_clear_0 rfl ?_
  obtain ⟨g1, hF⟩ := hg_some hF
  obtain ⟨g2, hF⟩ := hg_some hF
  refine jv_getR hC fl_X11_26 dX11_clear_1 rfl g1 g2 ?_
  refine jv_iconst hC dX11_clear_4 c32_0 ?_
  obtain ⟨g3, hF⟩ := hg_some hF
  refine jv_putI hC fl_X11_249 dX11_clear_5 rfl rfl rfl g3 ?_
  obtain ⟨M4, e5, hF⟩ := hl_some hF
  refine jv_mem e5 ?_
  refine jv_iconst hC dX11_clear_8 c32_1 ?_
  obtain ⟨rfl, rfl⟩ := hr_some hF
  exact jv_zret hC (by decide) dX11_clear_9
set_option maxRecDepth 100000 in
set_option maxHeartbeats 4000000 in
theorem k_Ps_isGuild {n : Nat} {S : hm_S} {v0 : Nat} {v1 : Int32} {M : hm_M} {r : Int32} {M' : hm_M} (hF : f_Ps_isGuild S v0 v1 M = some (r, M')) : hm_KM yX11_isGuild cX11_isGuild 2 (some .boolean) 1 n S [.ref v0, .int v1] M (some (.int r)) M' := by
  refine hm_enter mm_Ps_isGuild (Nat.le_of_ble_eq_true rfl) (fun X hC => ?_)
  show hm_U X 0 [(0, .ref v0), (1, .int v1)] [] M _
  unfold f_Ps_isGuild at hF
  refine jv_iload_n hC 1 dX11_isGuild_0 rfl ?_
  refine jv_if_lt hC 22 dX11_isGuild_1 (by decide) (fun h1 => ?_) (fun h1 => ?_)
  · have hF := hi_pos h1 hF
    refine jv_iconst hC dX11_isGuild_22 c32_0 ?_
    obtain ⟨rfl, rfl⟩ := hr_some hF
    exact jv_zret hC (by decide) dX11_isGuild_23
  · have hF := hi_neg h1 hF
    refine jv_iload_n hC 1 dX11_isGuild_4 rfl ?_
    refine jv_aload_n hC 0 dX11_isGuild_5 rfl ?_
    obtain ⟨g2, hF⟩ := hg_some hF
    obtain ⟨g3, hF⟩ := hg_some hF
    refine jv_getR hC fl_X11_19 dX11_isGuild_6 rfl g2 g3 ?_
    obtain ⟨g4, hF⟩ := hg_some hF
    obtain ⟨g5, hF⟩ := hg_some hF
    refine jv_getR hC fl_X11_98 dX11_isGuild_9 rfl g4 g5 ?_
    obtain ⟨g6, hF⟩ := hg_some hF
    refine jv_getI hC fl_X11_281 dX11_isGuild_12 rfl g6 ?_
    refine jv_icmp_ge hC 22 dX11_isGuild_15 (by decide) (fun h7 => ?_) (fun h7 => ?_)
    · have hF := hi_pos h7 hF
      refine jv_iconst hC dX11_isGuild_22 c32_0 ?_
      obtain ⟨rfl, rfl⟩ := hr_some hF
      exact jv_zret hC (by decide) dX11_isGuild_23
    · have hF := hi_neg h7 hF
      refine jv_iconst hC dX11_isGuild_18 c32_1 ?_
      refine jv_goto hC 23 dX11_isGuild_19 (by decide) ?_
      obtain ⟨rfl, rfl⟩ := hr_some hF
      exact jv_zret hC (by decide) dX11_isGuild_23
set_option maxRecDepth 100000 in
set_option maxHeartbeats 4000000 in
theorem k_Rents_cloudedYear {n : Nat} {S : hm_S} {v0 : Nat} {v1 : Nat} {v2 : Int32} {v3 : Int32} {M : hm_M} {r : Int32} {M' : hm_M} (hF : f_Rents_cloudedYear S v0 v1 v2 v3 M = some (r, M')) : hm_KM yX6_cloudedYear cX6_cloudedYear 4 (some .int) 6 n S [.ref v0, .ref v1, .int v2, .int v3] M (some (.int r)) M' := by
  refine hm_enter mm_Rents_cloudedYear (Nat.le_of_ble_eq_true rfl) (fun X hC => ?_)
  show hm_U X 0 [(0, .ref v0), (1, .ref v1), (2, .int v2), (3, .int v3)] [] M _
  unfold f_Rents_cloudedYear at hF
  refine jv_aload_n hC 0 dX6_cloudedYear_0 rfl ?_
  refine jv_aload_n hC 1 dX6_cloudedYear_1 rfl ?_
  refine jv_iload_n hC 2 dX6_cloudedYear_2 rfl ?_
  refine jv_iload_n hC 3 dX6_cloudedYear_3 rfl ?_
  refine jv_aload_n hC 1 dX6_cloudedYear_4 rfl ?_
  obtain ⟨g1, hF⟩ := hg_some hF
  obtain ⟨g2, hF⟩ := hg_some hF
  refine jv_getR hC fl_X6_64 dX6_cloudedYear_5 rfl g1 g2 ?_
  obtain ⟨g3, hF⟩ := hg_some hF
  refine jv_getI hC fl_X6_70 dX6_cloudedYear_8 rfl g3 ?_
  refine jv_pc 11 rfl ?_
  refine jv_bipush hC dX6_cloudedYear_11 c8_16 ?_
  obtain ⟨g4, hF⟩ := hg_some hF
  obtain ⟨M6, c5, hF⟩ := hv_some hF
  refine jv_callV hC (st := []) [.ref v1, .int v2, .int v3, .int (M.1 (M.2.2 v1 0) 2), .int (16 : Int32)] (k_Rents_measure c5) mm_Rents_measure mi_Rents_measure ml_X6_60 dX6_cloudedYear_13 g4 rfl (Nat.le_of_ble_eq_true rfl) rfl rfl (Nat.le_of_ble_eq_true rfl) ?_
  refine jv_nf 16 [] rfl rfl ?_
  refine jv_bipush hC dX6_cloudedYear_16 c8_16 ?_
  obtain ⟨rfl, rfl⟩ := hr_some hF
  exact jv_iret hC dX6_cloudedYear_18
set_option maxRecDepth 100000 in
set_option maxHeartbeats 4000000 in
theorem t_Hold_panesOf_1 {X : hm_X} {n : Nat} {S : hm_S} (hC : hm_C X RX2 cX2_panesOf 4 (some .int) 1 n S) {k4 : Nat → Int32 → Int32 → Int32 → hm_M → Option (Int32 × hm_M)} (hk4 : ∀ (v0 : Nat) (v1 : Int32) (v2 : Int32) (v3 : Int32)  (M : hm_M) (r : Int32) (M' : hm_M), k4 v0 v1 v2 v3 M = some (r, M') → hm_U X 4 [(0, .ref v0), (1, .int v1), (2, .int v2), (3, .int v3)] [] M (hm_Q X (some (.int r)) M')) {v0 : Nat} {v1 : Int32} {v2 : Int32} {v3 : Int32} {M : hm_M} {r : Int32} {M' : hm_M} (hF : b_Hold_panesOf_1 S k4 v0 v1 v2 v3 M = some (r, M')) : hm_U X 4 [(0, .ref v0), (1, .int v1), (2, .int v2), (3, .int v3)] [] M (hm_Q X (some (.int r)) M') := by
  unfold b_Hold_panesOf_1 at hF
  refine jv_iload_n hC 3 dX2_panesOf_4 rfl ?_
  refine jv_bipush hC dX2_panesOf_5 c8_12 ?_
  refine jv_icmp_ge hC 32 dX2_panesOf_7 (by decide) (fun h1 => ?_) (fun h1 => ?_)
  · have hF := hi_pos h1 hF
    refine jv_iload_n hC 2 dX2_panesOf_32 rfl ?_
    obtain ⟨rfl, rfl⟩ := hr_some hF
    exact jv_iret hC dX2_panesOf_33
  · have hF := hi_neg h1 hF
    refine jv_aload_n hC 0 dX2_panesOf_10 rfl ?_
    obtain ⟨g2, hF⟩ := hg_some hF
    obtain ⟨g3, hF⟩ := hg_some hF
    refine jv_getR hC fl_X2_9 dX2_panesOf_11 rfl g2 g3 ?_
    refine jv_iload_n hC 3 dX2_panesOf_14 rfl ?_
    obtain ⟨g4, hF⟩ := hg_some hF
    obtain ⟨n5, sn5, in5⟩ := hm_ib_ok g4
    refine jv_iaload hC dX2_panesOf_15 sn5 in5 ?_
    refine jv_iload_n hC 1 dX2_panesOf_16 rfl ?_
    refine jv_icmp_ne hC 26 dX2_panesOf_17 (by decide) (fun h6 => ?_) (fun h6 => ?_)
    · have hF := hi_neg h6 hF
      refine jv_iinc hC 3 [(3, .int (v3 + (1 : Int32))), (0, .ref v0), (1, .int v1), (2, .int v2)] dX2_panesOf_26 rfl c32_1 (by decide) rfl ?_
      refine jv_goto hC 4 dX2_panesOf_29 (by decide) ?_
      refine jv_sub [1, 2, 3, 0] (ls' := [(0, .ref v0), (1, .int v1), (2, .int v2), (3, .int (v3 + (1 : Int32)))]) rfl ?_
      exact jv_pc 4 rfl (hk4 _ _ _ _ _ _ _ hF)
    · have hF := hi_pos h6 hF
      refine jv_iload_n hC 2 dX2_panesOf_20 rfl ?_
      refine jv_iconst hC dX2_panesOf_21 c32_1 ?_
      refine jv_iload_n hC 3 dX2_panesOf_22 rfl ?_
      refine jv_ishl hC dX2_panesOf_23 ?_
      refine jv_ior hC dX2_panesOf_24 ?_
      obtain ⟨x7, e8, hF⟩ := hl_some hF
      refine jv_topI e8 ?_
      refine jv_istore_n hC [(2, .int x7), (0, .ref v0), (1, .int v1), (3, .int v3)] dX2_panesOf_25 (by decide) rfl ?_
      refine jv_iinc hC 3 [(3, .int (v3 + (1 : Int32))), (2, .int x7), (0, .ref v0), (1, .int v1)] dX2_panesOf_26 rfl c32_1 (by decide) rfl ?_
      refine jv_goto hC 4 dX2_panesOf_29 (by decide) ?_
      refine jv_sub [2, 3, 1, 0] (ls' := [(0, .ref v0), (1, .int v1), (2, .int x7), (3, .int (v3 + (1 : Int32)))]) rfl ?_
      exact jv_pc 4 rfl (hk4 _ _ _ _ _ _ _ hF)
theorem s_Hold_panesOf_1 {X : hm_X} {n : Nat} {S : hm_S} (hC : hm_C X RX2 cX2_panesOf 4 (some .int) 1 n S) : ∀ (q : Nat) (v0 : Nat) (v1 : Int32) (v2 : Int32) (v3 : Int32) (M : hm_M) (r : Int32) (M' : hm_M), f_Hold_panesOf_1 S  q v0 v1 v2 v3 M = some (r, M') → hm_U X 4 [(0, .ref v0), (1, .int v1), (2, .int v2), (3, .int v3)] [] M (hm_Q X (some (.int r)) M') := by
  intro q
  induction q with
  | zero => intro v0 v1 v2 v3 M r M' hF; cases hF
  | succ q ih => intro v0 v1 v2 v3 M r M' hF; exact t_Hold_panesOf_1 hC ih hF
set_option maxRecDepth 100000 in
set_option maxHeartbeats 4000000 in
theorem k_Hold_panesOf {n : Nat} {S : hm_S} {v0 : Nat} {v1 : Int32} {M : hm_M} {r : Int32} {M' : hm_M} (hF : f_Hold_panesOf S v0 v1 M = some (r, M')) : hm_KM yX2_panesOf cX2_panesOf 4 (some .int) 1 n S [.ref v0, .int v1] M (some (.int r)) M' := by
  refine hm_enter mm_Hold_panesOf (Nat.le_of_ble_eq_true rfl) (fun X hC => ?_)
  show hm_U X 0 [(0, .ref v0), (1, .int v1)] [] M _
  unfold f_Hold_panesOf at hF
  refine jv_iconst hC dX2_panesOf_0 c32_0 ?_
  refine jv_istore_n hC [(2, .int (0 : Int32)), (0, .ref v0), (1, .int v1)] dX2_panesOf_1 (by decide) rfl ?_
  refine jv_iconst hC dX2_panesOf_2 c32_0 ?_
  refine jv_istore_n hC [(3, .int (0 : Int32)), (2, .int (0 : Int32)), (0, .ref v0), (1, .int v1)] dX2_panesOf_3 (by decide) rfl ?_
  refine jv_sub [2, 3, 1, 0] (ls' := [(0, .ref v0), (1, .int v1), (2, .int (0 : Int32)), (3, .int (0 : Int32))]) rfl ?_
  exact jv_pc 4 rfl (s_Hold_panesOf_1 hC hN _ _ _ _ _ _ _ hF)
set_option maxRecDepth 100000 in
set_option maxHeartbeats 4000000 in
theorem t_Rents_givenBy_1 {X : hm_X} {n : Nat} {S : hm_S} (hC : hm_C X RX6 cX6_givenBy 5 (some .int) 2 n S) {k5 : Nat → Int32 → Int32 → Int32 → Int32 → hm_M → Option (Int32 × hm_M)} (hk5 : ∀ (v0 : Nat) (v1 : Int32) (v2 : Int32) (v3 : Int32) (v4 : Int32)  (M : hm_M) (r : Int32) (M' : hm_M), k5 v0 v1 v2 v3 v4 M = some (r, M') → hm_U X 5 [(0, .ref v0), (1, .int v1), (2, .int v2), (3, .int v3), (4, .int v4)] [] M (hm_Q X (some (.int r)) M')) {v0 : Nat} {v1 : Int32} {v2 : Int32} {v3 : Int32} {v4 : Int32} {M : hm_M} {r : Int32} {M' : hm_M} (hF : b_Rents_givenBy_1 S k5 v0 v1 v2 v3 v4 M = some (r, M')) : hm_U X 5 [(0, .ref v0), (1, .int v1), (2, .int v2), (3, .int v3), (4, .int v4)] [] M (hm_Q X (some (.int r)) M') := by
  unfold b_Rents_givenBy_1 at hF
  refine jv_iload hC 4 dX6_givenBy_5 rfl ?_
  refine jv_bipush hC dX6_givenBy_7 c8_12 ?_
  refine jv_icmp_ge hC 38 dX6_givenBy_9 (by decide) (fun h1 => ?_) (fun h1 => ?_)
  · have hF := hi_pos h1 hF
    refine jv_iload_n hC 3 dX6_givenBy_38 rfl ?_
    obtain ⟨rfl, rfl⟩ := hr_some hF
    exact jv_iret hC dX6_givenBy_39
  · have hF := hi_neg h1 hF
    refine jv_iload_n hC 2 dX6_givenBy_12 rfl ?_
    refine jv_iload hC 4 dX6_givenBy_13 rfl ?_
    refine jv_ishr hC dX6_givenBy_15 ?_
    refine jv_iconst hC dX6_givenBy_16 c32_1 ?_
    refine jv_iand hC dX6_givenBy_17 ?_
    refine jv_iconst hC dX6_givenBy_18 c32_1 ?_
    refine jv_icmp_ne hC 32 dX6_givenBy_19 (by decide) (fun h2 => ?_) (fun h2 => ?_)
    · have hF := hi_neg h2 hF
      refine jv_iinc hC 4 [(4, .int (v4 + (1 : Int32))), (0, .ref v0), (1, .int v1), (2, .int v2), (3, .int v3)] dX6_givenBy_32 rfl c32_1 (by decide) rfl ?_
      refine jv_goto hC 5 dX6_givenBy_35 (by decide) ?_
      refine jv_sub [1, 2, 3, 4, 0] (ls' := [(0, .ref v0), (1, .int v1), (2, .int v2), (3, .int v3), (4, .int (v4 + (1 : Int32)))]) rfl ?_
      exact jv_pc 5 rfl (hk5 _ _ _ _ _ _ _ _ hF)
    · have hF := hi_pos h2 hF
      refine jv_iload_n hC 3 dX6_givenBy_22 rfl ?_
      refine jv_aload_n hC 0 dX6_givenBy_23 rfl ?_
      refine jv_iload_n hC 1 dX6_givenBy_24 rfl ?_
      refine jv_iload hC 4 dX6_givenBy_25 rfl ?_
      obtain ⟨g3, hF⟩ := hg_some hF
      obtain ⟨r6, M5, c4, hF⟩ := hb_some hF
      refine jv_callV hC (st := [.int v3]) [.int v1, .int v4] (k_Rents_given c4) mm_Rents_given mi_Rents_given ml_X6_28 dX6_givenBy_27 g3 rfl (Nat.le_of_ble_eq_true rfl) rfl rfl (Nat.le_of_ble_eq_true rfl) ?_
      refine jv_nf 30 [.int r6, .int v3] rfl rfl ?_
      refine jv_iadd hC dX6_givenBy_30 ?_
      obtain ⟨x7, e8, hF⟩ := hl_some hF
      refine jv_topI e8 ?_
      refine jv_istore_n hC [(3, .int x7), (0, .ref v0), (1, .int v1), (2, .int v2), (4, .int v4)] dX6_givenBy_31 (by decide) rfl ?_
      refine jv_iinc hC 4 [(4, .int (v4 + (1 : Int32))), (3, .int x7), (0, .ref v0), (1, .int v1), (2, .int v2)] dX6_givenBy_32 rfl c32_1 (by decide) rfl ?_
      refine jv_goto hC 5 dX6_givenBy_35 (by decide) ?_
      refine jv_sub [2, 3, 4, 1, 0] (ls' := [(0, .ref v0), (1, .int v1), (2, .int v2), (3, .int x7), (4, .int (v4 + (1 : Int32)))]) rfl ?_
      exact jv_pc 5 rfl (hk5 _ _ _ _ _ _ _ _ hF)
