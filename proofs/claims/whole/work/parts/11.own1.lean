/-! by program: the machine runs them -/
set_option maxRecDepth 100000 in
set_option maxHeartbeats 4000000 in
theorem k_J6_bitCount_0f7a4 {n : Nat} {S : hm_S} {v0 : Int32} {M : hm_M} {r : Int32} {M' : hm_M} (hF : f_J6_bitCount_0f7a4 S v0 M = some (r, M')) : hm_KM yJ6_bitCount_0f7a4 cJ6_bitCount_0f7a4 1 (some .int) 1 n S [.int v0] M (some (.int r)) M' := by
  refine hm_enter mm_J6_bitCount_0f7a4 (Nat.le_of_ble_eq_true rfl) (fun X hC => ?_)
  show hm_U X 0 [(0, .int v0)] [] M _
  unfold f_J6_bitCount_0f7a4 at hF
  refine jv_iload_n hC 0 dJ6_bitCount_0f7a4_0 rfl ?_
  refine jv_iload_n hC 0 dJ6_bitCount_0f7a4_1 rfl ?_
  refine jv_iconst hC dJ6_bitCount_0f7a4_2 c32_1 ?_
  refine jv_iushr hC dJ6_bitCount_0f7a4_3 ?_
  refine jv_ldcw hC cn_J6_265 dJ6_bitCount_0f7a4_4 ?_
  refine jv_iand hC dJ6_bitCount_0f7a4_7 ?_
  refine jv_isub hC dJ6_bitCount_0f7a4_8 ?_
  refine jv_pc 9 rfl ?_
  obtain ⟨x1, e2, hF⟩ := hl_some hF
  refine jv_topI e2 ?_
  refine jv_istore_n hC [(0, .int x1)] dJ6_bitCount_0f7a4_9 (by decide) rfl ?_
  refine jv_iload_n hC 0 dJ6_bitCount_0f7a4_10 rfl ?_
  refine jv_ldcw hC cn_J6_266 dJ6_bitCount_0f7a4_11 ?_
  refine jv_iand hC dJ6_bitCount_0f7a4_14 ?_
  refine jv_iload_n hC 0 dJ6_bitCount_0f7a4_15 rfl ?_
  refine jv_iconst hC dJ6_bitCount_0f7a4_16 c32_2 ?_
  refine jv_iushr hC dJ6_bitCount_0f7a4_17 ?_
  refine jv_ldcw hC cn_J6_266 dJ6_bitCount_0f7a4_18 ?_
  refine jv_pc 21 rfl ?_
  refine jv_iand hC dJ6_bitCount_0f7a4_21 ?_
  refine jv_iadd hC dJ6_bitCount_0f7a4_22 ?_
  obtain ⟨x3, e4, hF⟩ := hl_some hF
  refine jv_topI e4 ?_
  refine jv_istore_n hC [(0, .int x3)] dJ6_bitCount_0f7a4_23 (by decide) rfl ?_
  refine jv_iload_n hC 0 dJ6_bitCount_0f7a4_24 rfl ?_
  refine jv_iload_n hC 0 dJ6_bitCount_0f7a4_25 rfl ?_
  refine jv_iconst hC dJ6_bitCount_0f7a4_26 c32_4 ?_
  refine jv_iushr hC dJ6_bitCount_0f7a4_27 ?_
  refine jv_iadd hC dJ6_bitCount_0f7a4_28 ?_
  refine jv_pc 29 rfl ?_
  refine jv_ldcw hC cn_J6_267 dJ6_bitCount_0f7a4_29 ?_
  refine jv_iand hC dJ6_bitCount_0f7a4_32 ?_
  obtain ⟨x5, e6, hF⟩ := hl_some hF
  refine jv_topI e6 ?_
  refine jv_istore_n hC [(0, .int x5)] dJ6_bitCount_0f7a4_33 (by decide) rfl ?_
  refine jv_iload_n hC 0 dJ6_bitCount_0f7a4_34 rfl ?_
  refine jv_iload_n hC 0 dJ6_bitCount_0f7a4_35 rfl ?_
  refine jv_bipush hC dJ6_bitCount_0f7a4_36 c8_8 ?_
  refine jv_iushr hC dJ6_bitCount_0f7a4_38 ?_
  refine jv_iadd hC dJ6_bitCount_0f7a4_39 ?_
  refine jv_pc 40 rfl ?_
  obtain ⟨x7, e8, hF⟩ := hl_some hF
  refine jv_topI e8 ?_
  refine jv_istore_n hC [(0, .int x7)] dJ6_bitCount_0f7a4_40 (by decide) rfl ?_
  refine jv_iload_n hC 0 dJ6_bitCount_0f7a4_41 rfl ?_
  refine jv_iload_n hC 0 dJ6_bitCount_0f7a4_42 rfl ?_
  refine jv_bipush hC dJ6_bitCount_0f7a4_43 c8_16 ?_
  refine jv_iushr hC dJ6_bitCount_0f7a4_45 ?_
  refine jv_iadd hC dJ6_bitCount_0f7a4_46 ?_
  obtain ⟨x9, e10, hF⟩ := hl_some hF
  refine jv_topI e10 ?_
  refine jv_istore_n hC [(0, .int x9)] dJ6_bitCount_0f7a4_47 (by decide) rfl ?_
  refine jv_iload_n hC 0 dJ6_bitCount_0f7a4_48 rfl ?_
  refine jv_pc 49 rfl ?_
  refine jv_bipush hC dJ6_bitCount_0f7a4_49 c8_63 ?_
  refine jv_iand hC dJ6_bitCount_0f7a4_51 ?_
  obtain ⟨rfl, rfl⟩ := hr_some hF
  exact jv_iret hC dJ6_bitCount_0f7a4_52
set_option maxRecDepth 100000 in
set_option maxHeartbeats 4000000 in
theorem t_J7_fill_53178_1 {X : hm_X} {n : Nat} {S : hm_S} (hC : hm_C X RJ7 cJ7_fill_53178 4 none 1 n S) {k5 : Nat → Int32 → Int32 → Int32 → hm_M → Option hm_M} (hk5 : ∀ (v0 : Nat) (v1 : Int32) (v2 : Int32) (v3 : Int32)  (M : hm_M) (M' : hm_M), k5 v0 v1 v2 v3 M = some M' → hm_U X 5 [(0, .ref v0), (1, .int v1), (2, .int v2), (3, .int v3)] [] M (hm_Q X none M')) {v0 : Nat} {v1 : Int32} {v2 : Int32} {v3 : Int32} {M : hm_M} {M' : hm_M} (hF : b_J7_fill_53178_1 S k5 v0 v1 v2 v3 M = some M') : hm_U X 5 [(0, .ref v0), (1, .int v1), (2, .int v2), (3, .int v3)] [] M (hm_Q X none M') := by
  unfold b_J7_fill_53178_1 at hF
  refine jv_iload_n hC 2 dJ7_fill_53178_5 rfl ?_
  refine jv_iload_n hC 3 dJ7_fill_53178_6 rfl ?_
  refine jv_icmp_ge hC 20 dJ7_fill_53178_7 (by decide) (fun h1 => ?_) (fun h1 => ?_)
  · have hF := hi_pos h1 hF
    obtain rfl := hr_somev hF
    exact jv_vret hC dJ7_fill_53178_20
  · have hF := hi_neg h1 hF
    refine jv_aload_n hC 0 dJ7_fill_53178_10 rfl ?_
    refine jv_iload_n hC 2 dJ7_fill_53178_11 rfl ?_
    refine jv_iload_n hC 1 dJ7_fill_53178_12 rfl ?_
    obtain ⟨g2, hF⟩ := hg_some hF
    obtain ⟨n3, sn3, in3⟩ := hm_ib_ok g2
    refine jv_iastore hC dJ7_fill_53178_13 sn3 in3 ?_
    obtain ⟨M4, e5, hF⟩ := hl_some hF
    refine jv_mem e5 ?_
    refine jv_iinc hC 2 [(2, .int (v2 + (1 : Int32))), (0, .ref v0), (1, .int v1), (3, .int v3)] dJ7_fill_53178_14 rfl c32_1 (by decide) rfl ?_
    refine jv_goto hC 5 dJ7_fill_53178_17 (by decide) ?_
    refine jv_sub [1, 2, 0, 3] (ls' := [(0, .ref v0), (1, .int v1), (2, .int (v2 + (1 : Int32))), (3, .int v3)]) rfl ?_
    exact jv_pc 5 rfl (hk5 _ _ _ _ _ _ hF)
theorem s_J7_fill_53178_1 {X : hm_X} {n : Nat} {S : hm_S} (hC : hm_C X RJ7 cJ7_fill_53178 4 none 1 n S) : ∀ (q : Nat) (v0 : Nat) (v1 : Int32) (v2 : Int32) (v3 : Int32) (M : hm_M) (M' : hm_M), f_J7_fill_53178_1 S  q v0 v1 v2 v3 M = some M' → hm_U X 5 [(0, .ref v0), (1, .int v1), (2, .int v2), (3, .int v3)] [] M (hm_Q X none M') := by
  intro q
  induction q with
  | zero => intro v0 v1 v2 v3 M M' hF; cases hF
  | succ q ih => intro v0 v1 v2 v3 M M' hF; exact t_J7_fill_53178_1 hC ih hF
set_option maxRecDepth 100000 in
set_option maxHeartbeats 4000000 in
theorem k_J7_fill_53178 {n : Nat} {S : hm_S} {v0 : Nat} {v1 : Int32} {M : hm_M} {M' : hm_M} (hF : f_J7_fill_53178 S v0 v1 M = some M') : hm_KM yJ7_fill_53178 cJ7_fill_53178 4 none 1 n S [.ref v0, .int v1] M none M' := by
  refine hm_enter mm_J7_fill_53178 (Nat.le_of_ble_eq_true rfl) (fun X hC => ?_)
  show hm_U X 0 [(0, .ref v0), (1, .int v1)] [] M _
  unfold f_J7_fill_53178 at hF
  refine jv_iconst hC dJ7_fill_53178_0 c32_0 ?_
  refine jv_istore_n hC [(2, .int (0 : Int32)), (0, .ref v0), (1, .int v1)] dJ7_fill_53178_1 (by decide) rfl ?_
  refine jv_aload_n hC 1 dJ7_fill_53178_2 rfl ?_
  obtain ⟨g2, hF⟩ := hg_some hF
  have sn1 := hm_len_ok g2
  refine jv_alenI hC dJ7_fill_53178_3 sn1 ?_
  obtain ⟨x3, e4, hF⟩ := hl_some hF
  refine jv_topI e4 ?_
  refine jv_istore_n hC [(3, .int x3), (2, .int (0 : Int32)), (0, .ref v0), (1, .int v1)] dJ7_fill_53178_4 (by decide) rfl ?_
  refine jv_sub [2, 3, 1, 0] (ls' := [(0, .ref v0), (1, .int v1), (2, .int (0 : Int32)), (3, .int x3)]) rfl ?_
  exact jv_pc 5 rfl (s_J7_fill_53178_1 hC hN _ _ _ _ _ _ hF)
set_option maxRecDepth 100000 in
set_option maxHeartbeats 4000000 in
theorem t_J7_fill_d0a16_1 {X : hm_X} {n : Nat} {S : hm_S} (hC : hm_C X RJ7 cJ7_fill_d0a16 5 none 1 n S) {k6 : Nat → Int64 → Int32 → Int32 → hm_M → Option hm_M} (hk6 : ∀ (v0 : Nat) (v1 : Int64) (v3 : Int32) (v4 : Int32)  (M : hm_M) (M' : hm_M), k6 v0 v1 v3 v4 M = some M' → hm_U X 6 [(0, .ref v0), (1, .long v1), (3, .int v3), (4, .int v4)] [] M (hm_Q X none M')) {v0 : Nat} {v1 : Int64} {v3 : Int32} {v4 : Int32} {M : hm_M} {M' : hm_M} (hF : b_J7_fill_d0a16_1 S k6 v0 v1 v3 v4 M = some M') : hm_U X 6 [(0, .ref v0), (1, .long v1), (3, .int v3), (4, .int v4)] [] M (hm_Q X none M') := by
  unfold b_J7_fill_d0a16_1 at hF
  refine jv_iload_n hC 2 dJ7_fill_d0a16_6 rfl ?_
  refine jv_iload hC 3 dJ7_fill_d0a16_7 rfl ?_
  refine jv_icmp_ge hC 22 dJ7_fill_d0a16_9 (by decide) (fun h1 => ?_) (fun h1 => ?_)
  · have hF := hi_pos h1 hF
    obtain rfl := hr_somev hF
    exact jv_vret hC dJ7_fill_d0a16_22
  · have hF := hi_neg h1 hF
    refine jv_aload_n hC 0 dJ7_fill_d0a16_12 rfl ?_
    refine jv_iload_n hC 2 dJ7_fill_d0a16_13 rfl ?_
    refine jv_lload_n hC 1 dJ7_fill_d0a16_14 rfl ?_
    obtain ⟨g2, hF⟩ := hg_some hF
    obtain ⟨n3, sn3, in3⟩ := hm_ib_ok g2
    refine jv_lastore hC dJ7_fill_d0a16_15 sn3 in3 ?_
    obtain ⟨M4, e5, hF⟩ := hl_some hF
    refine jv_mem e5 ?_
    refine jv_iinc hC 2 [(3, .int (v3 + (1 : Int32))), (0, .ref v0), (1, .long v1), (4, .int v4)] dJ7_fill_d0a16_16 rfl c32_1 (by decide) rfl ?_
    refine jv_goto hC 6 dJ7_fill_d0a16_19 (by decide) ?_
    refine jv_sub [1, 2, 0, 3] (ls' := [(0, .ref v0), (1, .long v1), (3, .int (v3 + (1 : Int32))), (4, .int v4)]) rfl ?_
    exact jv_pc 6 rfl (hk6 _ _ _ _ _ _ hF)
theorem s_J7_fill_d0a16_1 {X : hm_X} {n : Nat} {S : hm_S} (hC : hm_C X RJ7 cJ7_fill_d0a16 5 none 1 n S) : ∀ (q : Nat) (v0 : Nat) (v1 : Int64) (v3 : Int32) (v4 : Int32) (M : hm_M) (M' : hm_M), f_J7_fill_d0a16_1 S  q v0 v1 v3 v4 M = some M' → hm_U X 6 [(0, .ref v0), (1, .long v1), (3, .int v3), (4, .int v4)] [] M (hm_Q X none M') := by
  intro q
  induction q with
  | zero => intro v0 v1 v3 v4 M M' hF; cases hF
  | succ q ih => intro v0 v1 v3 v4 M M' hF; exact t_J7_fill_d0a16_1 hC ih hF
set_option maxRecDepth 100000 in
set_option maxHeartbeats 4000000 in
theorem k_J7_fill_d0a16 {n : Nat} {S : hm_S} {v0 : Nat} {v1 : Int64} {M : hm_M} {M' : hm_M} (hF : f_J7_fill_d0a16 S v0 v1 M = some M') : hm_KM yJ7_fill_d0a16 cJ7_fill_d0a16 5 none 1 n S [.ref v0, .long v1] M none M' := by
  refine hm_enter mm_J7_fill_d0a16 (Nat.le_of_ble_eq_true rfl) (fun X hC => ?_)
  show hm_U X 0 [(0, .ref v0), (1, .long v1)] [] M _
  unfold f_J7_fill_d0a16 at hF
  refine jv_iconst hC dJ7_fill_d0a16_0 c32_0 ?_
  refine jv_istore_n hC [(3, .int (0 : Int32)), (0, .ref v0), (1, .long v1)] dJ7_fill_d0a16_1 (by decide) rfl ?_
  refine jv_aload_n hC 1 dJ7_fill_d0a16_2 rfl ?_
  obtain ⟨g2, hF⟩ := hg_some hF
  have sn1 := hm_len_ok g2
  refine jv_alenL hC dJ7_fill_d0a16_3 sn1 ?_
  obtain ⟨x3, e4, hF⟩ := hl_some hF
  refine jv_topI e4 ?_
  refine jv_istore hC [(4, .int x3), (3, .int (0 : Int32)), (0, .ref v0), (1, .long v1)] dJ7_fill_d0a16_4 (by decide) rfl ?_
  refine jv_sub [2, 3, 1, 0] (ls' := [(0, .ref v0), (1, .long v1), (3, .int (0 : Int32)), (4, .int x3)]) rfl ?_
  exact jv_pc 6 rfl (s_J7_fill_d0a16_1 hC hN _ _ _ _ _ _ hF)
set_option maxRecDepth 100000 in
set_option maxHeartbeats 4000000 in
theorem t_Laws_begin_1 {X : hm_X} {n : Nat} {S : hm_S} (hC : hm_C X RX3 cX3_begin 2 none 1 n S) {k7 : Nat → Int32 → hm_M → Option hm_M} (hk7 : ∀ (v0 : Nat) (v1 : Int32)  (M : hm_M) (M' : hm_M), k7 v0 v1 M = some M' → hm_U X 7 [(0, .ref v0), (1, .int v1)] [] M (hm_Q X none M')) {v0 : Nat} {v1 : Int32} {M : hm_M} {M' : hm_M} (hF : b_Laws_begin_1 S k7 v0 v1 M = some M') : hm_U X 7 [(0, .ref v0), (1, .int v1)] [] M (hm_Q X none M') := by
  unfold b_Laws_begin_1 at hF
  refine jv_iload_n hC 1 dX3_begin_7 rfl ?_
  refine jv_iconst hC dX3_begin_8 c32_4 ?_
  refine jv_icmp_ge hC 32 dX3_begin_9 (by decide) (fun h1 => ?_) (fun h1 => ?_)
  · have hF := hi_pos h1 hF
    obtain rfl := hr_somev hF
    exact jv_vret hC dX3_begin_32
  · have hF := hi_neg h1 hF
    refine jv_aload_n hC 0 dX3_begin_12 rfl ?_
    obtain ⟨g2, hF⟩ := hg_some hF
    obtain ⟨g3, hF⟩ := hg_some hF
    refine jv_getR hC fl_X3_19 dX3_begin_13 rfl g2 g3 ?_
    refine jv_iload_n hC 1 dX3_begin_16 rfl ?_
    refine jv_iconst hC dX3_begin_17 c32_0 ?_
    obtain ⟨g4, hF⟩ := hg_some hF
    obtain ⟨n5, sn5, in5⟩ := hm_ib_ok g4
    refine jv_iastore hC dX3_begin_18 sn5 in5 ?_
    obtain ⟨M6, e7, hF⟩ := hl_some hF
    refine jv_mem e7 ?_
    refine jv_aload_n hC 0 dX3_begin_19 rfl ?_
    obtain ⟨g8, hF⟩ := hg_some hF
    refine jv_getR hC fl_X3_22 dX3_begin_20 rfl g2 g8 ?_
    refine jv_pc 23 rfl ?_
    refine jv_iload_n hC 1 dX3_begin_23 rfl ?_
    refine jv_iconst hC dX3_begin_24 c32_0 ?_
    obtain ⟨g9, hF⟩ := hg_some hF
    obtain ⟨n10, sn10, in10⟩ := hm_ib_ok g9
    refine jv_iastore hC dX3_begin_25 sn10 in10 ?_
    obtain ⟨M11, e12, hF⟩ := hl_some hF
    refine jv_mem e12 ?_
    refine jv_iinc hC 1 [(1, .int (v1 + (1 : Int32))), (0, .ref v0)] dX3_begin_26 rfl c32_1 (by decide) rfl ?_
    refine jv_goto hC 7 dX3_begin_29 (by decide) ?_
    refine jv_sub [1, 0] (ls' := [(0, .ref v0), (1, .int (v1 + (1 : Int32)))]) rfl ?_
    exact jv_pc 7 rfl (hk7 _ _ _ _ hF)
theorem s_Laws_begin_1 {X : hm_X} {n : Nat} {S : hm_S} (hC : hm_C X RX3 cX3_begin 2 none 1 n S) : ∀ (q : Nat) (v0 : Nat) (v1 : Int32) (M : hm_M) (M' : hm_M), f_Laws_begin_1 S  q v0 v1 M = some M' → hm_U X 7 [(0, .ref v0), (1, .int v1)] [] M (hm_Q X none M') := by
  intro q
  induction q with
  | zero => intro v0 v1 M M' hF; cases hF
  | succ q ih => intro v0 v1 M M' hF; exact t_Laws_begin_1 hC ih hF
set_option maxRecDepth 100000 in
set_option maxHeartbeats 4000000 in
theorem k_Laws_begin {n : Nat} {S : hm_S} {v0 : Nat} {M : hm_M} {M' : hm_M} (hF : f_Laws_begin S v0 M = some M') : hm_KM yX3_begin cX3_begin 2 none 1 n S [.ref v0] M none M' := by
  refine hm_enter mm_Laws_begin (Nat.le_of_ble_eq_true rfl) (fun X hC => ?_)
  show hm_U X 0 [(0, .ref v0)] [] M _
  unfold f_Laws_begin at hF
  refine jv_aload_n hC 0 dX3_begin_0 rfl ?_
  refine jv_iconst hC dX3_begin_1 c32_0 ?_
  obtain ⟨g1, hF⟩ := hg_some hF
  refine jv_putI hC fl_X3_15 dX3_begin_2 rfl rfl rfl g1 ?_
  obtain ⟨M2, e3, hF⟩ := hl_some hF
  refine jv_mem e3 ?_
  refine jv_iconst hC dX3_begin_5 c32_0 ?_
  refine jv_istore_n hC [(1, .int (0 : Int32)), (0, .ref v0)] dX3_begin_6 (by decide) rfl ?_
  refine jv_sub [1, 0] (ls' := [(0, .ref v0), (1, .int (0 : Int32))]) rfl ?_
  exact jv_pc 7 rfl (s_Laws_begin_1 hC hN _ _ _ _ hF)
set_option maxRecDepth 100000 in
set_option maxHeartbeats 4000000 in
theorem k_Chapel_begin {n : Nat} {S : hm_S} {v0 : Nat} {M : hm_M} {M' : hm_M} (hF : f_Chapel_begin S v0 M = some M') : hm_KM yX0_begin cX0_begin 1 none 2 n S [.ref v0] M none M' := by
  refine hm_enter mm_Chapel_begin (Nat.le_of_ble_eq_true rfl) (fun X hC => ?_)
  show hm_U X 0 [(0, .ref v0)] [] M _
  unfold f_Chapel_begin at hF
  refine jv_aload_n hC 0 dX0_begin_0 rfl ?_
  refine jv_iconst hC dX0_begin_1 c32_4 ?_
  obtain ⟨g1, hF⟩ := hg_some hF
  refine jv_putI hC fl_X0_44 dX0_begin_2 rfl rfl rfl g1 ?_
  obtain ⟨M2, e3, hF⟩ := hl_some hF
  refine jv_mem e3 ?_
  refine jv_aload_n hC 0 dX0_begin_5 rfl ?_
  refine jv_iconst hC dX0_begin_6 c32_4 ?_
  refine jv_putI hC fl_X0_48 dX0_begin_7 rfl rfl rfl g1 ?_
  obtain ⟨M4, e5, hF⟩ := hl_some hF
  refine jv_mem e5 ?_
  refine jv_aload_n hC 0 dX0_begin_10 rfl ?_
  refine jv_pc 11 rfl ?_
  refine jv_iconst hC dX0_begin_11 c32_0 ?_
  refine jv_putI hC fl_X0_51 dX0_begin_12 rfl rfl rfl g1 ?_
  obtain ⟨M6, e7, hF⟩ := hl_some hF
  refine jv_mem e7 ?_
  refine jv_aload_n hC 0 dX0_begin_15 rfl ?_
  refine jv_iconst hC dX0_begin_16 c32_0 ?_
  refine jv_putI hC fl_X0_54 dX0_begin_17 rfl rfl rfl g1 ?_
  obtain ⟨M8, e9, hF⟩ := hl_some hF
  refine jv_mem e9 ?_
  refine jv_aload_n hC 0 dX0_begin_20 rfl ?_
  refine jv_iconst hC dX0_begin_21 c32_0 ?_
  refine jv_putI hC fl_X0_57 dX0_begin_22 rfl rfl rfl g1 ?_
  obtain ⟨M10, e11, hF⟩ := hl_some hF
  refine jv_mem e11 ?_
  refine jv_pc 25 rfl ?_
  refine jv_aload_n hC 0 dX0_begin_25 rfl ?_
  obtain ⟨g12, hF⟩ := hg_some hF
  refine jv_getR hC fl_X0_37 dX0_begin_26 rfl g1 g12 ?_
  obtain ⟨g13, hF⟩ := hg_some hF
  obtain ⟨M15, c14, hF⟩ := hv_some hF
  refine jv_callV hC (st := []) [] (k_Laws_begin c14) mm_Laws_begin mi_Laws_begin ml_X0_60 dX0_begin_29 g13 rfl (Nat.le_of_ble_eq_true rfl) rfl rfl (Nat.le_of_ble_eq_true rfl) ?_
  refine jv_nf 32 [] rfl rfl ?_
  obtain rfl := hr_somev hF
  exact jv_vret hC dX0_begin_32
set_option maxRecDepth 100000 in
set_option maxHeartbeats 4000000 in
theorem t_Chapel_colourOf_1 {X : hm_X} {n : Nat} {S : hm_S} (hC : hm_C X RX0 cX0_colourOf 4 (some .int) 1 n S) {k4 : Nat → Int32 → Int32 → Int32 → hm_M → Option (Int32 × hm_M)} (hk4 : ∀ (v0 : Nat) (v1 : Int32) (v2 : Int32) (v3 : Int32)  (M : hm_M) (r : Int32) (M' : hm_M), k4 v0 v1 v2 v3 M = some (r, M') → hm_U X 4 [(0, .ref v0), (1, .int v1), (2, .int v2), (3, .int v3)] [] M (hm_Q X (some (.int r)) M')) {v0 : Nat} {v1 : Int32} {v2 : Int32} {v3 : Int32} {M : hm_M} {r : Int32} {M' : hm_M} (hF : b_Chapel_colourOf_1 S k4 v0 v1 v2 v3 M = some (r, M')) : hm_U X 4 [(0, .ref v0), (1, .int v1), (2, .int v2), (3, .int v3)] [] M (hm_Q X (some (.int r)) M') := by
  unfold b_Chapel_colourOf_1 at hF
  refine jv_iload_n hC 3 dX0_colourOf_4 rfl ?_
  refine jv_bipush hC dX0_colourOf_5 c8_12 ?_
  refine jv_icmp_ge hC 34 dX0_colourOf_7 (by decide) (fun h1 => ?_) (fun h1 => ?_)
  · have hF := hi_pos h1 hF
    refine jv_iload_n hC 2 dX0_colourOf_34 rfl ?_
    obtain ⟨rfl, rfl⟩ := hr_some hF
    exact jv_iret hC dX0_colourOf_35
  · have hF := hi_neg h1 hF
    refine jv_iload_n hC 1 dX0_colourOf_10 rfl ?_
    refine jv_iload_n hC 3 dX0_colourOf_11 rfl ?_
    refine jv_ishr hC dX0_colourOf_12 ?_
    refine jv_iconst hC dX0_colourOf_13 c32_1 ?_
    refine jv_iand hC dX0_colourOf_14 ?_
    refine jv_iconst hC dX0_colourOf_15 c32_1 ?_
    refine jv_icmp_ne hC 28 dX0_colourOf_16 (by decide) (fun h2 => ?_) (fun h2 => ?_)
    · have hF := hi_neg h2 hF
      refine jv_iinc hC 3 [(3, .int (v3 + (1 : Int32))), (0, .ref v0), (1, .int v1), (2, .int v2)] dX0_colourOf_28 rfl c32_1 (by decide) rfl ?_
      refine jv_goto hC 4 dX0_colourOf_31 (by decide) ?_
      refine jv_sub [1, 2, 3, 0] (ls' := [(0, .ref v0), (1, .int v1), (2, .int v2), (3, .int (v3 + (1 : Int32)))]) rfl ?_
      exact jv_pc 4 rfl (hk4 _ _ _ _ _ _ _ hF)
    · have hF := hi_pos h2 hF
      refine jv_iload_n hC 2 dX0_colourOf_19 rfl ?_
      refine jv_aload_n hC 0 dX0_colourOf_20 rfl ?_
      obtain ⟨g3, hF⟩ := hg_some hF
      obtain ⟨g4, hF⟩ := hg_some hF
      refine jv_getR hC fl_X0_31 dX0_colourOf_21 rfl g3 g4 ?_
      refine jv_iload_n hC 3 dX0_colourOf_24 rfl ?_
      obtain ⟨g5, hF⟩ := hg_some hF
      obtain ⟨n6, sn6, in6⟩ := hm_ib_ok g5
      refine jv_iaload hC dX0_colourOf_25 sn6 in6 ?_
      refine jv_ior hC dX0_colourOf_26 ?_
      obtain ⟨x7, e8, hF⟩ := hl_some hF
      refine jv_topI e8 ?_
      refine jv_istore_n hC [(2, .int x7), (0, .ref v0), (1, .int v1), (3, .int v3)] dX0_colourOf_27 (by decide) rfl ?_
      refine jv_pc 28 rfl ?_
      refine jv_iinc hC 3 [(3, .int (v3 + (1 : Int32))), (2, .int x7), (0, .ref v0), (1, .int v1)] dX0_colourOf_28 rfl c32_1 (by decide) rfl ?_
      refine jv_goto hC 4 dX0_colourOf_31 (by decide) ?_
      refine jv_sub [2, 3, 1, 0] (ls' := [(0, .ref v0), (1, .int v1), (2, .int x7), (3, .int (v3 + (1 : Int32)))]) rfl ?_
      exact jv_pc 4 rfl (hk4 _ _ _ _ _ _ _ hF)
theorem s_Chapel_colourOf_1 {X : hm_X} {n : Nat} {S : hm_S} (hC : hm_C X RX0 cX0_colourOf 4 (some .int) 1 n S) : ∀ (q : Nat) (v0 : Nat) (v1 : Int32) (v2 : Int32) (v3 : Int32) (M : hm_M) (r : Int32) (M' : hm_M), f_Chapel_colourOf_1 S  q v0 v1 v2 v3 M = some (r, M') → hm_U X 4 [(0, .ref v0), (1, .int v1), (2, .int v2), (3, .int v3)] [] M (hm_Q X (some (.int r)) M') := by
  intro q
  induction q with
  | zero => intro v0 v1 v2 v3 M r M' hF; cases hF
  | succ q ih => intro v0 v1 v2 v3 M r M' hF; exact t_Chapel_colourOf_1 hC ih hF
set_option maxRecDepth 100000 in
set_option maxHeartbeats 4000000 in
theorem k_Chapel_colourOf {n : Nat} {S : hm_S} {v0 : Nat} {v1 : Int32} {M : hm_M} {r : Int32} {M' : hm_M} (hF : f_Chapel_colourOf S v0 v1 M = some (r, M')) : hm_KM yX0_colourOf cX0_colourOf 4 (some .int) 1 n S [.ref v0, .int v1] M (some (.int r)) M' := by
  refine hm_enter mm_Chapel_colourOf (Nat.le_of_ble_eq_true rfl) (fun X hC => ?_)
  show hm_U X 0 [(0, .ref v0), (1, .int v1)] [] M _
  unfold f_Chapel_colourOf at hF
  refine jv_iconst hC dX0_colourOf_0 c32_0 ?_
  refine jv_istore_n hC [(2, .int (0 : Int32)), (0, .ref v0), (1, .int v1)] dX0_colourOf_1 (by decide) rfl ?_
  refine jv_iconst hC dX0_colourOf_2 c32_0 ?_
  refine jv_istore_n hC [(3, .int (0 : Int32)), (2, .int (0 : Int32)), (0, .ref v0), (1, .int v1)] dX0_colourOf_3 (by decide) rfl ?_
  refine jv_sub [2, 3, 1, 0] (ls' := [(0, .ref v0), (1, .int v1), (2, .int (0 : Int32)), (3, .int (0 : Int32))]) rfl ?_
  exact jv_pc 4 rfl (s_Chapel_colourOf_1 hC hN _ _ _ _ _ _ _ hF)
set_option maxRecDepth 100000 in
set_option maxHeartbeats 4000000 in
theorem t_Chapel_guildNamed_1 {X : hm_X} {n : Nat} {S : hm_S} (hC : hm_C X RX0 cX0_guildNamed 4 (some .int) 1 n S) {k2 : Nat → Int64 → Int32 → hm_M → Option (Int32 × hm_M)} (hk2 : ∀ (v0 : Nat) (v1 : Int64) (v3 : Int32)  (M : hm_M) (r : Int32) (M' : hm_M), k2 v0 v1 v3 M = some (r, M') → hm_U X 2 [(0, .ref v0), (1, .long v1), (3, .int v3)] [] M (hm_Q X (some (.int r)) M')) {v0 : Nat} {v1 : Int64} {v3 : Int32} {M : hm_M} {r : Int32} {M' : hm_M} (hF : b_Chapel_guildNamed_1 S k2 v0 v1 v3 M = some (r, M')) : hm_U X 2 [(0, .ref v0), (1, .long v1), (3, .int v3)] [] M (hm_Q X (some (.int r)) M') := by
  unfold b_Chapel_guildNamed_1 at hF
  refine jv_iload_n hC 2 dX0_guildNamed_2 rfl ?_
  refine jv_aload_n hC 0 dX0_guildNamed_3 rfl ?_
  obtain ⟨g1, hF⟩ := hg_some hF
  refine jv_getI hC fl_X0_54 dX0_guildNamed_4 rfl g1 ?_
  refine jv_icmp_ge hC 35 dX0_guildNamed_7 (by decide) (fun h2 => ?_) (fun h2 => ?_)
  · have hF := hi_pos h2 hF
    refine jv_iconst hC dX0_guildNamed_35 c32_m1 ?_
    obtain ⟨rfl, rfl⟩ := hr_some hF
    exact jv_iret hC dX0_guildNamed_36
  · have hF := hi_neg h2 hF
    refine jv_iload_n hC 2 dX0_guildNamed_10 rfl ?_
    refine jv_bipush hC dX0_guildNamed_11 c8_6 ?_
    refine jv_icmp_ge hC 35 dX0_guildNamed_13 (by decide) (fun h3 => ?_) (fun h3 => ?_)
    · have hF := hi_pos h3 hF
      refine jv_iconst hC dX0_guildNamed_35 c32_m1 ?_
      obtain ⟨rfl, rfl⟩ := hr_some hF
      exact jv_iret hC dX0_guildNamed_36
    · have hF := hi_neg h3 hF
      refine jv_aload_n hC 0 dX0_guildNamed_16 rfl ?_
      obtain ⟨g4, hF⟩ := hg_some hF
      refine jv_getR hC fl_X0_9 dX0_guildNamed_17 rfl g1 g4 ?_
      refine jv_iload_n hC 2 dX0_guildNamed_20 rfl ?_
      obtain ⟨g5, hF⟩ := hg_some hF
      obtain ⟨n6, sn6, in6⟩ := hm_ib_ok g5
      refine jv_laload hC dX0_guildNamed_21 sn6 in6 ?_
      refine jv_lload_n hC 1 dX0_guildNamed_22 rfl ?_
      refine jv_lcmp hC dX0_guildNamed_23 ?_
      refine jv_if_ne hC 29 dX0_guildNamed_24 (by decide) (fun h7 => ?_) (fun h7 => ?_)
      · have hF := hi_neg h7 hF
        refine jv_iinc hC 2 [(3, .int (v3 + (1 : Int32))), (0, .ref v0), (1, .long v1)] dX0_guildNamed_29 rfl c32_1 (by decide) rfl ?_
        refine jv_goto hC 2 dX0_guildNamed_32 (by decide) ?_
        refine jv_sub [1, 2, 0] (ls' := [(0, .ref v0), (1, .long v1), (3, .int (v3 + (1 : Int32)))]) rfl ?_
        exact jv_pc 2 rfl (hk2 _ _ _ _ _ _ hF)
      · have hF := hi_pos h7 hF
        refine jv_iload_n hC 2 dX0_guildNamed_27 rfl ?_
        obtain ⟨rfl, rfl⟩ := hr_some hF
        exact jv_iret hC dX0_guildNamed_28
theorem s_Chapel_guildNamed_1 {X : hm_X} {n : Nat} {S : hm_S} (hC : hm_C X RX0 cX0_guildNamed 4 (some .int) 1 n S) : ∀ (q : Nat) (v0 : Nat) (v1 : Int64) (v3 : Int32) (M : hm_M) (r : Int32) (M' : hm_M), f_Chapel_guildNamed_1 S  q v0 v1 v3 M = some (r, M') → hm_U X 2 [(0, .ref v0), (1, .long v1), (3, .int v3)] [] M (hm_Q X (some (.int r)) M') := by
  intro q
  induction q with
  | zero => intro v0 v1 v3 M r M' hF; cases hF
  | succ q ih => intro v0 v1 v3 M r M' hF; exact t_Chapel_guildNamed_1 hC ih hF
set_option maxRecDepth 100000 in
set_option maxHeartbeats 4000000 in
theorem k_Chapel_guildNamed {n : Nat} {S : hm_S} {v0 : Nat} {v1 : Int64} {M : hm_M} {r : Int32} {M' : hm_M} (hF : f_Chapel_guildNamed S v0 v1 M = some (r, M')) : hm_KM yX0_guildNamed cX0_guildNamed 4 (some .int) 1 n S [.ref v0, .long v1] M (some (.int r)) M' := by
  refine hm_enter mm_Chapel_guildNamed (Nat.le_of_ble_eq_true rfl) (fun X hC => ?_)
  show hm_U X 0 [(0, .ref v0), (1, .long v1)] [] M _
  unfold f_Chapel_guildNamed at hF
  refine jv_iconst hC dX0_guildNamed_0 c32_0 ?_
  refine jv_istore_n hC [(3, .int (0 : Int32)), (0, .ref v0), (1, .long v1)] dX0_guildNamed_1 (by decide) rfl ?_
  refine jv_sub [1, 2, 0] (ls' := [(0, .ref v0), (1, .long v1), (3, .int (0 : Int32))]) rfl ?_
  exact jv_pc 2 rfl (s_Chapel_guildNamed_1 hC hN _ _ _ _ _ _ hF)
set_option maxRecDepth 100000 in
set_option maxHeartbeats 4000000 in
theorem t_Chapel_hasPaneAt_1 {X : hm_X} {n : Nat} {S : hm_S} (hC : hm_C X RX0 cX0_hasPaneAt 4 (some .boolean) 1 n S) {k2 : Nat → Int32 → Int32 → Int32 → hm_M → Option (Int32 × hm_M)} (hk2 : ∀ (v0 : Nat) (v1 : Int32) (v2 : Int32) (v3 : Int32)  (M : hm_M) (r : Int32) (M' : hm_M), k2 v0 v1 v2 v3 M = some (r, M') → hm_U X 2 [(0, .ref v0), (1, .int v1), (2, .int v2), (3, .int v3)] [] M (hm_Q X (some (.int r)) M')) {v0 : Nat} {v1 : Int32} {v2 : Int32} {v3 : Int32} {M : hm_M} {r : Int32} {M' : hm_M} (hF : b_Chapel_hasPaneAt_1 S k2 v0 v1 v2 v3 M = some (r, M')) : hm_U X 2 [(0, .ref v0), (1, .int v1), (2, .int v2), (3, .int v3)] [] M (hm_Q X (some (.int r)) M') := by
  unfold b_Chapel_hasPaneAt_1 at hF
  refine jv_iload_n hC 3 dX0_hasPaneAt_2 rfl ?_
  refine jv_aload_n hC 0 dX0_hasPaneAt_3 rfl ?_
  obtain ⟨g1, hF⟩ := hg_some hF
  refine jv_getI hC fl_X0_57 dX0_hasPaneAt_4 rfl g1 ?_
  refine jv_icmp_ge hC 44 dX0_hasPaneAt_7 (by decide) (fun h2 => ?_) (fun h2 => ?_)
  · have hF := hi_pos h2 hF
    refine jv_iconst hC dX0_hasPaneAt_44 c32_0 ?_
    obtain ⟨rfl, rfl⟩ := hr_some hF
    exact jv_zret hC (by decide) dX0_hasPaneAt_45
  · have hF := hi_neg h2 hF
    refine jv_iload_n hC 3 dX0_hasPaneAt_10 rfl ?_
    refine jv_bipush hC dX0_hasPaneAt_11 c8_12 ?_
    refine jv_icmp_ge hC 44 dX0_hasPaneAt_13 (by decide) (fun h3 => ?_) (fun h3 => ?_)
    · have hF := hi_pos h3 hF
      refine jv_iconst hC dX0_hasPaneAt_44 c32_0 ?_
      obtain ⟨rfl, rfl⟩ := hr_some hF
      exact jv_zret hC (by decide) dX0_hasPaneAt_45
    · have hF := hi_neg h3 hF
      refine jv_aload_n hC 0 dX0_hasPaneAt_16 rfl ?_
      obtain ⟨g4, hF⟩ := hg_some hF
      refine jv_getR hC fl_X0_22 dX0_hasPaneAt_17 rfl g1 g4 ?_
      refine jv_iload_n hC 3 dX0_hasPaneAt_20 rfl ?_
      obtain ⟨g5, hF⟩ := hg_some hF
      obtain ⟨n6, sn6, in6⟩ := hm_ib_ok g5
      refine jv_iaload hC dX0_hasPaneAt_21 sn6 in6 ?_
      refine jv_iload_n hC 1 dX0_hasPaneAt_22 rfl ?_
      refine jv_icmp_ne hC 38 dX0_hasPaneAt_23 (by decide) (fun h7 => ?_) (fun h7 => ?_)
      · have hF := hi_neg h7 hF
        refine jv_iinc hC 3 [(3, .int (v3 + (1 : Int32))), (0, .ref v0), (1, .int v1), (2, .int v2)] dX0_hasPaneAt_38 rfl c32_1 (by decide) rfl ?_
        refine jv_goto hC 2 dX0_hasPaneAt_41 (by decide) ?_
        refine jv_sub [1, 2, 3, 0] (ls' := [(0, .ref v0), (1, .int v1), (2, .int v2), (3, .int (v3 + (1 : Int32)))]) rfl ?_
        exact jv_pc 2 rfl (hk2 _ _ _ _ _ _ _ hF)
      · have hF := hi_pos h7 hF
        refine jv_aload_n hC 0 dX0_hasPaneAt_26 rfl ?_
        obtain ⟨g8, hF⟩ := hg_some hF
        refine jv_getR hC fl_X0_25 dX0_hasPaneAt_27 rfl g1 g8 ?_
        refine jv_iload_n hC 3 dX0_hasPaneAt_30 rfl ?_
        obtain ⟨g9, hF⟩ := hg_some hF
        obtain ⟨n10, sn10, in10⟩ := hm_ib_ok g9
        refine jv_iaload hC dX0_hasPaneAt_31 sn10 in10 ?_
        refine jv_iload_n hC 2 dX0_hasPaneAt_32 rfl ?_
        refine jv_icmp_ne hC 38 dX0_hasPaneAt_33 (by decide) (fun h11 => ?_) (fun h11 => ?_)
        · have hF := hi_neg h11 hF
          refine jv_iinc hC 3 [(3, .int (v3 + (1 : Int32))), (0, .ref v0), (1, .int v1), (2, .int v2)] dX0_hasPaneAt_38 rfl c32_1 (by decide) rfl ?_
          refine jv_goto hC 2 dX0_hasPaneAt_41 (by decide) ?_
          refine jv_sub [1, 2, 3, 0] (ls' := [(0, .ref v0), (1, .int v1), (2, .int v2), (3, .int (v3 + (1 : Int32)))]) rfl ?_
          exact jv_pc 2 rfl (hk2 _ _ _ _ _ _ _ hF)
        · have hF := hi_pos h11 hF
          refine jv_iconst hC dX0_hasPaneAt_36 c32_1 ?_
          obtain ⟨rfl, rfl⟩ := hr_some hF
          exact jv_zret hC (by decide) dX0_hasPaneAt_37
theorem s_Chapel_hasPaneAt_1 {X : hm_X} {n : Nat} {S : hm_S} (hC : hm_C X RX0 cX0_hasPaneAt 4 (some .boolean) 1 n S) : ∀ (q : Nat) (v0 : Nat) (v1 : Int32) (v2 : Int32) (v3 : Int32) (M : hm_M) (r : Int32) (M' : hm_M), f_Chapel_hasPaneAt_1 S  q v0 v1 v2 v3 M = some (r, M') → hm_U X 2 [(0, .ref v0), (1, .int v1), (2, .int v2), (3, .int v3)] [] M (hm_Q X (some (.int r)) M') := by
  intro q
  induction q with
  | zero => intro v0 v1 v2 v3 M r M' hF; cases hF
  | succ q ih => intro v0 v1 v2 v3 M r M' hF; exact t_Chapel_hasPaneAt_1 hC ih hF
set_option maxRecDepth 100000 in
set_option maxHeartbeats 4000000 in
theorem k_Chapel_hasPaneAt {n : Nat} {S : hm_S} {v0 : Nat} {v1 : Int32} {v2 : Int32} {M : hm_M} {r : Int32} {M' : hm_M} (hF : f_Chapel_hasPaneAt S v0 v1 v2 M = some (r, M')) : hm_KM yX0_hasPaneAt cX0_hasPaneAt 4 (some .boolean) 1 n S [.ref v0, .int v1, .int v2] M (some (.int r)) M' := by
  refine hm_enter mm_Chapel_hasPaneAt (Nat.le_of_ble_eq_true rfl) (fun X hC => ?_)
  show hm_U X 0 [(0, .ref v0), (1, .int v1), (2, .int v2)] [] M _
  unfold f_Chapel_hasPaneAt at hF
  refine jv_iconst hC dX0_hasPaneAt_0 c32_0 ?_
  refine jv_istore_n hC [(3, .int (0 : Int32)), (0, .ref v0), (1, .int v1), (2, .int v2)] dX0_hasPaneAt_1 (by decide) rfl ?_
  refine jv_sub [1, 2, 3, 0] (ls' := [(0, .ref v0), (1, .int v1), (2, .int v2), (3, .int (0 : Int32))]) rfl ?_
  exact jv_pc 2 rfl (s_Chapel_hasPaneAt_1 hC hN _ _ _ _ _ _ _ hF)
set_option maxRecDepth 100000 in
set_option maxHeartbeats 4000000 in
theorem k_Chapel_hasPlace {n : Nat} {S : hm_S} {v0 : Nat} {v1 : Int32} {v2 : Int32} {M : hm_M} {r : Int32} {M' : hm_M} (hF : f_Chapel_hasPlace S v0 v1 v2 M = some (r, M')) : hm_KM yX0_hasPlace cX0_hasPlace 3 (some .boolean) 1 n S [.ref v0, .int v1, .int v2] M (some (.int r)) M' := by
  refine hm_enter mm_Chapel_hasPlace (Nat.le_of_ble_eq_true rfl) (fun X hC => ?_)
  show hm_U X 0 [(0, .ref v0), (1, .int v1), (2, .int v2)] [] M _
  unfold f_Chapel_hasPlace at hF
  refine jv_iload_n hC 1 dX0_hasPlace_0 rfl ?_
  refine jv_if_lt hC 28 dX0_hasPlace_1 (by decide) (fun h1 => ?_) (fun h1 => ?_)
  · have hF := hi_pos h1 hF
    refine jv_iconst hC dX0_hasPlace_28 c32_0 ?_
    obtain ⟨rfl, rfl⟩ := hr_some hF
    exact jv_zret hC (by decide) dX0_hasPlace_29
  · have hF := hi_neg h1 hF
    refine jv_iload_n hC 1 dX0_hasPlace_4 rfl ?_
    refine jv_aload_n hC 0 dX0_hasPlace_5 rfl ?_
    obtain ⟨g2, hF⟩ := hg_some hF
    refine jv_getI hC fl_X0_44 dX0_hasPlace_6 rfl g2 ?_
    refine jv_icmp_ge hC 28 dX0_hasPlace_9 (by decide) (fun h3 => ?_) (fun h3 => ?_)
    · have hF := hi_pos h3 hF
      refine jv_iconst hC dX0_hasPlace_28 c32_0 ?_
      obtain ⟨rfl, rfl⟩ := hr_some hF
      exact jv_zret hC (by decide) dX0_hasPlace_29
    · have hF := hi_neg h3 hF
      refine jv_iload_n hC 2 dX0_hasPlace_12 rfl ?_
      refine jv_if_lt hC 28 dX0_hasPlace_13 (by decide) (fun h4 => ?_) (fun h4 => ?_)
      · have hF := hi_pos h4 hF
        refine jv_iconst hC dX0_hasPlace_28 c32_0 ?_
        obtain ⟨rfl, rfl⟩ := hr_some hF
        exact jv_zret hC (by decide) dX0_hasPlace_29
      · have hF := hi_neg h4 hF
        refine jv_iload_n hC 2 dX0_hasPlace_16 rfl ?_
        refine jv_aload_n hC 0 dX0_hasPlace_17 rfl ?_
        refine jv_getI hC fl_X0_48 dX0_hasPlace_18 rfl g2 ?_
        refine jv_icmp_ge hC 28 dX0_hasPlace_21 (by decide) (fun h5 => ?_) (fun h5 => ?_)
        · have hF := hi_pos h5 hF
          refine jv_iconst hC dX0_hasPlace_28 c32_0 ?_
          obtain ⟨rfl, rfl⟩ := hr_some hF
          exact jv_zret hC (by decide) dX0_hasPlace_29
        · have hF := hi_neg h5 hF
          refine jv_iconst hC dX0_hasPlace_24 c32_1 ?_
          refine jv_goto hC 29 dX0_hasPlace_25 (by decide) ?_
          obtain ⟨rfl, rfl⟩ := hr_some hF
          exact jv_zret hC (by decide) dX0_hasPlace_29
set_option maxRecDepth 100000 in
set_option maxHeartbeats 4000000 in
theorem t_Way_floorOf_1 {X : hm_X} {n : Nat} {S : hm_S} (hC : hm_C X RX10 cX10_floorOf 4 (some .long) 2 n S) {k4 : Nat → Int64 → Int32 → hm_M → Option (Int64 × hm_M)} (hk4 : ∀ (v0 : Nat) (v1 : Int64) (v3 : Int32)  (M : hm_M) (r : Int64) (M' : hm_M), k4 v0 v1 v3 M = some (r, M') → hm_U X 4 [(0, .ref v0), (1, .long v1), (3, .int v3)] [] M (hm_Q X (some (.long r)) M')) {v0 : Nat} {v1 : Int64} {v3 : Int32} {M : hm_M} {r : Int64} {M' : hm_M} (hF : b_Way_floorOf_1 S k4 v0 v1 v3 M = some (r, M')) : hm_U X 4 [(0, .ref v0), (1, .long v1), (3, .int v3)] [] M (hm_Q X (some (.long r)) M') := by
  unfold b_Way_floorOf_1 at hF
  refine jv_iload_n hC 2 dX10_floorOf_4 rfl ?_
  refine jv_bipush hC dX10_floorOf_5 c8_64 ?_
  refine jv_icmp_ge hC 37 dX10_floorOf_7 (by decide) (fun h1 => ?_) (fun h1 => ?_)
  · have hF := hi_pos h1 hF
    refine jv_lload_n hC 1 dX10_floorOf_37 rfl ?_
    obtain ⟨rfl, rfl⟩ := hr_some hF
    exact jv_lret hC dX10_floorOf_38
  · have hF := hi_neg h1 hF
    refine jv_aload_n hC 0 dX10_floorOf_10 rfl ?_
    refine jv_iload_n hC 2 dX10_floorOf_11 rfl ?_
    refine jv_bipush hC dX10_floorOf_12 c8_8 ?_
    refine jv_irem hC dX10_floorOf_14 (by decide) ?_
    refine jv_iload_n hC 2 dX10_floorOf_15 rfl ?_
    refine jv_bipush hC dX10_floorOf_16 c8_8 ?_
    refine jv_idiv hC dX10_floorOf_18 (by decide) ?_
    refine jv_pc 19 rfl ?_
    obtain ⟨g2, hF⟩ := hg_some hF
    obtain ⟨r5, M4, c3, hF⟩ := hb_some hF
    refine jv_callV hC (st := []) [.int (v3 - v3 / (8 : Int32) * (8 : Int32)), .int (v3 / (8 : Int32))] (k_Chapel_hasPlace c3) mm_Chapel_hasPlace mi_Chapel_hasPlace ml_X10_61 dX10_floorOf_19 g2 rfl (Nat.le_of_ble_eq_true rfl) rfl rfl (Nat.le_of_ble_eq_true rfl) ?_
    refine jv_nf 22 [.int r5] rfl rfl ?_
    refine jv_if_eq hC 31 dX10_floorOf_22 (by decide) (fun h6 => ?_) (fun h6 => ?_)
    · have hF := hi_pos h6 hF
      refine jv_iinc hC 2 [(3, .int (v3 + (1 : Int32))), (0, .ref v0), (1, .long v1)] dX10_floorOf_31 rfl c32_1 (by decide) rfl ?_
      refine jv_goto hC 4 dX10_floorOf_34 (by decide) ?_
      refine jv_sub [1, 2, 0] (ls' := [(0, .ref v0), (1, .long v1), (3, .int (v3 + (1 : Int32)))]) rfl ?_
      exact jv_pc 4 rfl (hk4 _ _ _ _ _ _ hF)
    · have hF := hi_neg h6 hF
      refine jv_lload_n hC 1 dX10_floorOf_25 rfl ?_
      refine jv_lconst hC (v := 1) dX10_floorOf_26 (by decide) ?_
      refine jv_iload_n hC 2 dX10_floorOf_27 rfl ?_
      refine jv_lshl hC dX10_floorOf_28 ?_
      refine jv_lor hC dX10_floorOf_29 ?_
      obtain ⟨x7, e8, hF⟩ := hl_some hF
      refine jv_topL e8 ?_
      refine jv_lstore_n hC [(1, .long x7), (0, .ref v0), (3, .int v3)] dX10_floorOf_30 (by decide) rfl ?_
      refine jv_iinc hC 2 [(3, .int (v3 + (1 : Int32))), (1, .long x7), (0, .ref v0)] dX10_floorOf_31 rfl c32_1 (by decide) rfl ?_
      refine jv_goto hC 4 dX10_floorOf_34 (by decide) ?_
      refine jv_sub [2, 1, 0] (ls' := [(0, .ref v0), (1, .long x7), (3, .int (v3 + (1 : Int32)))]) rfl ?_
      exact jv_pc 4 rfl (hk4 _ _ _ _ _ _ hF)
theorem s_Way_floorOf_1 {X : hm_X} {n : Nat} {S : hm_S} (hC : hm_C X RX10 cX10_floorOf 4 (some .long) 2 n S) : ∀ (q : Nat) (v0 : Nat) (v1 : Int64) (v3 : Int32) (M : hm_M) (r : Int64) (M' : hm_M), f_Way_floorOf_1 S  q v0 v1 v3 M = some (r, M') → hm_U X 4 [(0, .ref v0), (1, .long v1), (3, .int v3)] [] M (hm_Q X (some (.long r)) M') := by
  intro q
  induction q with
  | zero => intro v0 v1 v3 M r M' hF; cases hF
  | succ q ih => intro v0 v1 v3 M r M' hF; exact t_Way_floorOf_1 hC ih hF
set_option maxRecDepth 100000 in
set_option maxHeartbeats 4000000 in
theorem k_Way_floorOf {n : Nat} {S : hm_S} {v0 : Nat} {M : hm_M} {r : Int64} {M' : hm_M} (hF : f_Way_floorOf S v0 M = some (r, M')) : hm_KM yX10_floorOf cX10_floorOf 4 (some .long) 2 n S [.ref v0] M (some (.long r)) M' := by
  refine hm_enter mm_Way_floorOf (Nat.le_of_ble_eq_true rfl) (fun X hC => ?_)
  show hm_U X 0 [(0, .ref v0)] [] M _
  unfold f_Way_floorOf at hF
  refine jv_lconst hC (v := 0) dX10_floorOf_0 (by decide) ?_
  refine jv_lstore_n hC [(1, .long (0 : Int64)), (0, .ref v0)] dX10_floorOf_1 (by decide) rfl ?_
  refine jv_iconst hC dX10_floorOf_2 c32_0 ?_
  refine jv_istore_n hC [(3, .int (0 : Int32)), (1, .long (0 : Int64)), (0, .ref v0)] dX10_floorOf_3 (by decide) rfl ?_
  refine jv_sub [2, 1, 0] (ls' := [(0, .ref v0), (1, .long (0 : Int64)), (3, .int (0 : Int32))]) rfl ?_
  exact jv_pc 4 rfl (s_Way_floorOf_1 hC hN _ _ _ _ _ _ hF)
set_option maxRecDepth 100000 in
set_option maxHeartbeats 4000000 in
theorem k_Laws_turnTo {n : Nat} {S : hm_S} {v0 : Nat} {v1 : Int32} {M : hm_M} {M' : hm_M} (hF : f_Laws_turnTo S v0 v1 M = some M') : hm_KM yX3_turnTo cX3_turnTo 2 none 1 n S [.ref v0, .int v1] M none M' := by
  refine hm_enter mm_Laws_turnTo (Nat.le_of_ble_eq_true rfl) (fun X hC => ?_)
  show hm_U X 0 [(0, .ref v0), (1, .int v1)] [] M _
  unfold f_Laws_turnTo at hF
  refine jv_aload_n hC 0 dX3_turnTo_0 rfl ?_
  obtain ⟨g1, hF⟩ := hg_some hF
  obtain ⟨g2, hF⟩ := hg_some hF
  refine jv_getR hC fl_X3_28 dX3_turnTo_1 rfl g1 g2 ?_
  refine jv_iconst hC dX3_turnTo_4 c32_0 ?_
  refine jv_iload_n hC 1 dX3_turnTo_5 rfl ?_
  refine jv_bipush hC dX3_turnTo_6 c8_24 ?_
  refine jv_idiv hC dX3_turnTo_8 (by decide) ?_
  obtain ⟨g3, hF⟩ := hg_some hF
  obtain ⟨n4, sn4, in4⟩ := hm_ib_ok g3
  refine jv_iastore hC dX3_turnTo_9 sn4 in4 ?_
  obtain ⟨M5, e6, hF⟩ := hl_some hF
  refine jv_mem e6 ?_
  refine jv_pc 10 rfl ?_
  refine jv_aload_n hC 0 dX3_turnTo_10 rfl ?_
  obtain ⟨g7, hF⟩ := hg_some hF
  refine jv_getR hC fl_X3_28 dX3_turnTo_11 rfl g1 g7 ?_
  refine jv_iconst hC dX3_turnTo_14 c32_1 ?_
  refine jv_iload_n hC 1 dX3_turnTo_15 rfl ?_
  refine jv_bipush hC dX3_turnTo_16 c8_24 ?_
  refine jv_irem hC dX3_turnTo_18 (by decide) ?_
  obtain ⟨g8, hF⟩ := hg_some hF
  obtain ⟨n9, sn9, in9⟩ := hm_ib_ok g8
  refine jv_iastore hC dX3_turnTo_19 sn9 in9 ?_
  obtain ⟨M10, e11, hF⟩ := hl_some hF
  refine jv_mem e11 ?_
  obtain rfl := hr_somev hF
  exact jv_vret hC dX3_turnTo_20
set_option maxRecDepth 100000 in
set_option maxHeartbeats 4000000 in
theorem k_Laws_isLaw {n : Nat} {S : hm_S} {v0 : Int32} {M : hm_M} {r : Int32} {M' : hm_M} (hF : f_Laws_isLaw S v0 M = some (r, M')) : hm_KM yX3_isLaw cX3_isLaw 1 (some .boolean) 1 n S [.int v0] M (some (.int r)) M' := by
  refine hm_enter mm_Laws_isLaw (Nat.le_of_ble_eq_true rfl) (fun X hC => ?_)
  show hm_U X 0 [(0, .int v0)] [] M _
  unfold f_Laws_isLaw at hF
  refine jv_iload_n hC 0 dX3_isLaw_0 rfl ?_
  refine jv_sipush hC dX3_isLaw_1 c16_135 ?_
  refine jv_icmp_lt hC 18 dX3_isLaw_4 (by decide) (fun h1 => ?_) (fun h1 => ?_)
  · have hF := hi_pos h1 hF
    refine jv_iconst hC dX3_isLaw_18 c32_0 ?_
    obtain ⟨rfl, rfl⟩ := hr_some hF
    exact jv_zret hC (by decide) dX3_isLaw_19
  · have hF := hi_neg h1 hF
    refine jv_iload_n hC 0 dX3_isLaw_7 rfl ?_
    refine jv_sipush hC dX3_isLaw_8 c16_138 ?_
    refine jv_icmp_gt hC 18 dX3_isLaw_11 (by decide) (fun h2 => ?_) (fun h2 => ?_)
    · have hF := hi_pos h2 hF
      refine jv_iconst hC dX3_isLaw_18 c32_0 ?_
      obtain ⟨rfl, rfl⟩ := hr_some hF
      exact jv_zret hC (by decide) dX3_isLaw_19
    · have hF := hi_neg h2 hF
      refine jv_iconst hC dX3_isLaw_14 c32_1 ?_
      refine jv_goto hC 19 dX3_isLaw_15 (by decide) ?_
      obtain ⟨rfl, rfl⟩ := hr_some hF
      exact jv_zret hC (by decide) dX3_isLaw_19
set_option maxRecDepth 100000 in
set_option maxHeartbeats 4000000 in
theorem k_Laws_valueUntold {n : Nat} {S : hm_S} {v0 : Nat} {v1 : Int32} {M : hm_M} {r : Int32} {M' : hm_M} (hF : f_Laws_valueUntold S v0 v1 M = some (r, M')) : hm_KM yX3_valueUntold cX3_valueUntold 3 (some .int) 1 n S [.ref v0, .int v1] M (some (.int r)) M' := by
  refine hm_enter mm_Laws_valueUntold (Nat.le_of_ble_eq_true rfl) (fun X hC => ?_)
  show hm_U X 0 [(0, .ref v0), (1, .int v1)] [] M _
  unfold f_Laws_valueUntold at hF
  refine jv_aload_n hC 0 dX3_valueUntold_0 rfl ?_
  obtain ⟨g1, hF⟩ := hg_some hF
  obtain ⟨g2, hF⟩ := hg_some hF
  refine jv_getR hC fl_X3_28 dX3_valueUntold_1 rfl g1 g2 ?_
  refine jv_iconst hC dX3_valueUntold_4 c32_1 ?_
  obtain ⟨g3, hF⟩ := hg_some hF
  obtain ⟨n4, sn4, in4⟩ := hm_ib_ok g3
  refine jv_iaload hC dX3_valueUntold_5 sn4 in4 ?_
  obtain ⟨x5, e6, hF⟩ := hl_some hF
  refine jv_topI e6 ?_
  refine jv_istore_n hC [(2, .int x5), (0, .ref v0), (1, .int v1)] dX3_valueUntold_6 (by decide) rfl ?_
  refine jv_iload_n hC 2 dX3_valueUntold_7 rfl ?_
  by_cases h7 : v1 = (135 : Int32)
  · have hF := hi_pos h7 hF
    refine jv_tableIn hC 36 dX3_valueUntold_8 (by rw [h7]; decide) (by rw [h7]; decide) (by rw [h7]; rfl) (by decide) ?_
    refine jv_iload_n hC 0 dX3_valueUntold_36 rfl ?_
    refine jv_bipush hC dX3_valueUntold_37 c8_12 ?_
    refine jv_isub hC dX3_valueUntold_39 ?_
    obtain ⟨rfl, rfl⟩ := hr_some hF
    exact jv_iret hC dX3_valueUntold_40
  have hF := hi_neg h7 hF
  by_cases h8 : v1 = (136 : Int32)
  · have hF := hi_pos h8 hF
    refine jv_tableIn hC 41 dX3_valueUntold_8 (by rw [h8]; decide) (by rw [h8]; decide) (by rw [h8]; rfl) (by decide) ?_
    refine jv_aload_n hC 1 dX3_valueUntold_41 rfl ?_
    refine jv_getR hC fl_X3_28 dX3_valueUntold_42 rfl g1 g2 ?_
    refine jv_iconst hC dX3_valueUntold_45 c32_3 ?_
    obtain ⟨g9, hF⟩ := hg_some hF
    obtain ⟨n10, sn10, in10⟩ := hm_ib_ok g9
    refine jv_iaload hC dX3_valueUntold_46 sn10 in10 ?_
    obtain ⟨rfl, rfl⟩ := hr_some hF
    exact jv_iret hC dX3_valueUntold_47
  have hF := hi_neg h8 hF
  by_cases h11 : v1 = (137 : Int32)
  · have hF := hi_pos h11 hF
    refine jv_tableIn hC 48 dX3_valueUntold_8 (by rw [h11]; decide) (by rw [h11]; decide) (by rw [h11]; rfl) (by decide) ?_
    refine jv_iload_n hC 0 dX3_valueUntold_48 rfl ?_
    refine jv_bipush hC dX3_valueUntold_49 c8_6 ?_
    refine jv_icmp_lt hC 60 dX3_valueUntold_51 (by decide) (fun h12 => ?_) (fun h12 => ?_)
    · have hF := hi_pos h12 hF
      refine jv_iconst hC dX3_valueUntold_60 c32_1 ?_
      refine jv_goto hC 65 dX3_valueUntold_61 (by decide) ?_
      obtain ⟨rfl, rfl⟩ := hr_some hF
      exact jv_iret hC dX3_valueUntold_65
    · have hF := hi_neg h12 hF
      refine jv_bipush hC dX3_valueUntold_54 c8_18 ?_
      refine jv_iload_n hC 0 dX3_valueUntold_56 rfl ?_
      refine jv_icmp_ge hC 64 dX3_valueUntold_57 (by decide) (fun h13 => ?_) (fun h13 => ?_)
      · have hF := hi_pos h13 hF
        refine jv_iconst hC dX3_valueUntold_64 c32_0 ?_
        obtain ⟨rfl, rfl⟩ := hr_some hF
        exact jv_iret hC dX3_valueUntold_65
      · have hF := hi_neg h13 hF
        refine jv_iconst hC dX3_valueUntold_60 c32_1 ?_
        refine jv_goto hC 65 dX3_valueUntold_61 (by decide) ?_
        obtain ⟨rfl, rfl⟩ := hr_some hF
        exact jv_iret hC dX3_valueUntold_65
  have hF := hi_neg h11 hF
  refine jv_tableOut hC 66 dX3_valueUntold_8 (by have := hm_out (c := 135) (by decide) h7; have := hm_out (c := 136) (by decide) h8; have := hm_out (c := 137) (by decide) h11; omega) (by decide) ?_
  refine jv_iconst hC dX3_valueUntold_66 c32_1 ?_
  obtain ⟨rfl, rfl⟩ := hr_some hF
  exact jv_iret hC dX3_valueUntold_67
set_option maxRecDepth 100000 in
set_option maxHeartbeats 4000000 in
theorem k_Laws_isFact {n : Nat} {S : hm_S} {v0 : Int32} {M : hm_M} {r : Int32} {M' : hm_M} (hF : f_Laws_isFact S v0 M = some (r, M')) : hm_KM yX3_isFact cX3_isFact 1 (some .boolean) 1 n S [.int v0] M (some (.int r)) M' := by
  refine hm_enter mm_Laws_isFact (Nat.le_of_ble_eq_true rfl) (fun X hC => ?_)
  show hm_U X 0 [(0, .int v0)] [] M _
  unfold f_Laws_isFact at hF
  refine jv_iload_n hC 0 dX3_isFact_0 rfl ?_
  refine jv_sipush hC dX3_isFact_1 c16_143 ?_
  refine jv_icmp_lt hC 18 dX3_isFact_4 (by decide) (fun h1 => ?_) (fun h1 => ?_)
  · have hF := hi_pos h1 hF
    refine jv_iconst hC dX3_isFact_18 c32_0 ?_
    obtain ⟨rfl, rfl⟩ := hr_some hF
    exact jv_zret hC (by decide) dX3_isFact_19
  · have hF := hi_neg h1 hF
    refine jv_iload_n hC 0 dX3_isFact_7 rfl ?_
    refine jv_sipush hC dX3_isFact_8 c16_149 ?_
    refine jv_icmp_gt hC 18 dX3_isFact_11 (by decide) (fun h2 => ?_) (fun h2 => ?_)
    · have hF := hi_pos h2 hF
      refine jv_iconst hC dX3_isFact_18 c32_0 ?_
      obtain ⟨rfl, rfl⟩ := hr_some hF
      exact jv_zret hC (by decide) dX3_isFact_19
    · have hF := hi_neg h2 hF
      refine jv_iconst hC dX3_isFact_14 c32_1 ?_
      refine jv_goto hC 19 dX3_isFact_15 (by decide) ?_
      obtain ⟨rfl, rfl⟩ := hr_some hF
      exact jv_zret hC (by decide) dX3_isFact_19
set_option maxRecDepth 100000 in
set_option maxHeartbeats 4000000 in
theorem k_Laws_joined {n : Nat} {S : hm_S} {v0 : Int32} {v1 : Int32} {v2 : Int32} {M : hm_M} {r : Int32} {M' : hm_M} (hF : f_Laws_joined S v0 v1 v2 M = some (r, M')) : hm_KM yX3_joined cX3_joined 3 (some .int) 1 n S [.int v0, .int v1, .int v2] M (some (.int r)) M' := by
  refine hm_enter mm_Laws_joined (Nat.le_of_ble_eq_true rfl) (fun X hC => ?_)
  show hm_U X 0 [(0, .int v0), (1, .int v1), (2, .int v2)] [] M _
  unfold f_Laws_joined at hF
  refine jv_iload_n hC 0 dX3_joined_0 rfl ?_
  by_cases h1 : v0 = (42 : Int32)
  · have hF := hi_pos h1 hF
    refine jv_lookup hC 68 dX3_joined_1 (by decide) (off := 67) (by rw [h1]; try rfl) (by decide) ?_
    refine jv_iload_n hC 1 dX3_joined_68 rfl ?_
    refine jv_iload_n hC 2 dX3_joined_69 rfl ?_
    refine jv_imul hC dX3_joined_70 ?_
    obtain ⟨rfl, rfl⟩ := hr_some hF
    exact jv_iret hC dX3_joined_71
  have hF := hi_neg h1 hF
  by_cases h2 : v0 = (43 : Int32)
  · have hF := hi_pos h2 hF
    refine jv_lookup hC 60 dX3_joined_1 (by decide) (off := 59) (by rw [h2]; try rfl) (by decide) ?_
    refine jv_iload_n hC 1 dX3_joined_60 rfl ?_
    refine jv_iload_n hC 2 dX3_joined_61 rfl ?_
    refine jv_iadd hC dX3_joined_62 ?_
    obtain ⟨rfl, rfl⟩ := hr_some hF
    exact jv_iret hC dX3_joined_63
  have hF := hi_neg h2 hF
  by_cases h3 : v0 = (45 : Int32)
  · have hF := hi_pos h3 hF
    refine jv_lookup hC 64 dX3_joined_1 (by decide) (off := 63) (by rw [h3]; try rfl) (by decide) ?_
    refine jv_iload_n hC 1 dX3_joined_64 rfl ?_
    refine jv_iload_n hC 2 dX3_joined_65 rfl ?_
    refine jv_isub hC dX3_joined_66 ?_
    obtain ⟨rfl, rfl⟩ := hr_some hF
    exact jv_iret hC dX3_joined_67
  have hF := hi_neg h3 hF
  by_cases h4 : v0 = (60 : Int32)
  · have hF := hi_pos h4 hF
    refine jv_lookup hC 72 dX3_joined_1 (by decide) (off := 71) (by rw [h4]; try rfl) (by decide) ?_
    refine jv_iload_n hC 1 dX3_joined_72 rfl ?_
    refine jv_iload_n hC 2 dX3_joined_73 rfl ?_
    refine jv_icmp_ge hC 81 dX3_joined_74 (by decide) (fun h5 => ?_) (fun h5 => ?_)
    · have hF := hi_pos h5 hF
      refine jv_iconst hC dX3_joined_81 c32_0 ?_
      obtain ⟨rfl, rfl⟩ := hr_some hF
      exact jv_iret hC dX3_joined_82
    · have hF := hi_neg h5 hF
      refine jv_iconst hC dX3_joined_77 c32_1 ?_
      refine jv_goto hC 82 dX3_joined_78 (by decide) ?_
      obtain ⟨rfl, rfl⟩ := hr_some hF
      exact jv_iret hC dX3_joined_82
  have hF := hi_neg h4 hF
  by_cases h6 : v0 = (61 : Int32)
  · have hF := hi_pos h6 hF
    refine jv_lookup hC 83 dX3_joined_1 (by decide) (off := 82) (by rw [h6]; try rfl) (by decide) ?_
    refine jv_iload_n hC 1 dX3_joined_83 rfl ?_
    refine jv_iload_n hC 2 dX3_joined_84 rfl ?_
    refine jv_icmp_ne hC 92 dX3_joined_85 (by decide) (fun h7 => ?_) (fun h7 => ?_)
    · have hF := hi_neg h7 hF
      refine jv_iconst hC dX3_joined_92 c32_0 ?_
      obtain ⟨rfl, rfl⟩ := hr_some hF
      exact jv_iret hC dX3_joined_93
    · have hF := hi_pos h7 hF
      refine jv_iconst hC dX3_joined_88 c32_1 ?_
      refine jv_goto hC 93 dX3_joined_89 (by decide) ?_
      obtain ⟨rfl, rfl⟩ := hr_some hF
      exact jv_iret hC dX3_joined_93
  have hF := hi_neg h6 hF
  by_cases h8 : v0 = (141 : Int32)
  · have hF := hi_pos h8 hF
    refine jv_lookup hC 94 dX3_joined_1 (by decide) (off := 93) (by rw [h8]; try rfl) (by decide) ?_
    refine jv_iload_n hC 1 dX3_joined_94 rfl ?_
    refine jv_if_eq hC 106 dX3_joined_95 (by decide) (fun h9 => ?_) (fun h9 => ?_)
    · have hF := hi_pos h9 hF
      refine jv_iconst hC dX3_joined_106 c32_0 ?_
      obtain ⟨rfl, rfl⟩ := hr_some hF
      exact jv_iret hC dX3_joined_107
    · have hF := hi_neg h9 hF
      refine jv_iload_n hC 2 dX3_joined_98 rfl ?_
      refine jv_if_eq hC 106 dX3_joined_99 (by decide) (fun h10 => ?_) (fun h10 => ?_)
      · have hF := hi_pos h10 hF
        refine jv_iconst hC dX3_joined_106 c32_0 ?_
        obtain ⟨rfl, rfl⟩ := hr_some hF
        exact jv_iret hC dX3_joined_107
      · have hF := hi_neg h10 hF
        refine jv_iconst hC dX3_joined_102 c32_1 ?_
        refine jv_goto hC 107 dX3_joined_103 (by decide) ?_
        obtain ⟨rfl, rfl⟩ := hr_some hF
        exact jv_iret hC dX3_joined_107
  have hF := hi_neg h8 hF
  have w13 := hm_out (c := 42) (by decide) h1
  have w14 := hm_out (c := 43) (by decide) h2
  have w15 := hm_out (c := 45) (by decide) h3
  have w16 := hm_out (c := 60) (by decide) h4
  have w17 := hm_out (c := 61) (by decide) h6
  have w18 := hm_out (c := 141) (by decide) h8
  refine jv_lookup hC 108 dX3_joined_1 (by decide) (off := 107) (by simp [Op.lookupswitch.offset, Ne.symm w13, Ne.symm w14, Ne.symm w15, Ne.symm w16, Ne.symm w17, Ne.symm w18]) (by decide) ?_
  refine jv_iload_n hC 1 dX3_joined_108 rfl ?_
  refine jv_if_ne hC 116 dX3_joined_109 (by decide) (fun h11 => ?_) (fun h11 => ?_)
  · have hF := hi_neg h11 hF
    refine jv_iconst hC dX3_joined_116 c32_1 ?_
    refine jv_goto hC 121 dX3_joined_117 (by decide) ?_
    obtain ⟨rfl, rfl⟩ := hr_some hF
    exact jv_iret hC dX3_joined_121
  · have hF := hi_pos h11 hF
    refine jv_iload_n hC 2 dX3_joined_112 rfl ?_
    refine jv_if_eq hC 120 dX3_joined_113 (by decide) (fun h12 => ?_) (fun h12 => ?_)
    · have hF := hi_pos h12 hF
      refine jv_iconst hC dX3_joined_120 c32_0 ?_
      obtain ⟨rfl, rfl⟩ := hr_some hF
      exact jv_iret hC dX3_joined_121
    · have hF := hi_neg h12 hF
      refine jv_iconst hC dX3_joined_116 c32_1 ?_
      refine jv_goto hC 121 dX3_joined_117 (by decide) ?_
      obtain ⟨rfl, rfl⟩ := hr_some hF
      exact jv_iret hC dX3_joined_121
set_option maxRecDepth 100000 in
set_option maxHeartbeats 4000000 in
theorem s_Laws_valueOf_5 {X : hm_X} {n : Nat} {S : hm_S} (hC : hm_C X RX3 cX3_valueOf 7 (some .int) 2 n S) {v0 : Nat} {M : hm_M} {r : Int32} {M' : hm_M} (hF : b_Laws_valueOf_5 S v0 M = some (r, M')) : hm_U X 216 [(0, .ref v0)] [] M (hm_Q X (some (.int r)) M') := by
  unfold b_Laws_valueOf_5 at hF
  refine jv_aload_n hC 0 dX3_valueOf_216 rfl ?_
  obtain ⟨g1, hF⟩ := hg_some hF
  obtain ⟨g2, hF⟩ := hg_some hF
  refine jv_getR hC fl_X3_25 dX3_valueOf_217 rfl g1 g2 ?_
  refine jv_iconst hC dX3_valueOf_220 c32_0 ?_
  obtain ⟨g3, hF⟩ := hg_some hF
  obtain ⟨n4, sn4, in4⟩ := hm_ib_ok g3
  refine jv_iaload hC dX3_valueOf_221 sn4 in4 ?_
  obtain ⟨rfl, rfl⟩ := hr_some hF
  exact jv_iret hC dX3_valueOf_222
set_option maxRecDepth 100000 in
set_option maxHeartbeats 4000000 in
theorem s_Laws_valueOf_4 {X : hm_X} {n : Nat} {S : hm_S} (hC : hm_C X RX3 cX3_valueOf 7 (some .int) 2 n S) {k48 : Nat → Int32 → Int32 → Int32 → hm_M → Option (Int32 × hm_M)} (hk48 : ∀ (v0 : Nat) (v2 : Int32) (v4 : Int32) (v5 : Int32)  (M : hm_M) (r : Int32) (M' : hm_M), k48 v0 v2 v4 v5 M = some (r, M') → hm_U X 48 [(0, .ref v0), (2, .int v2), (4, .int v4), (5, .int v5)] [] M (hm_Q X (some (.int r)) M')) {v0 : Nat} {v2 : Int32} {v4 : Int32} {v5 : Int32} {s0 : Int32} {s1 : Int32} {s2 : Nat} {M : hm_M} {r : Int32} {M' : hm_M} (hF : b_Laws_valueOf_4 S k48 v0 v2 v4 v5 s0 s1 s2 M = some (r, M')) : hm_U X 166 [(0, .ref v0), (2, .int v2), (4, .int v4), (5, .int v5)] [.int s0, .int s1, .ref s2] M (hm_Q X (some (.int r)) M') := by
  unfold b_Laws_valueOf_4 at hF
  obtain ⟨g1, hF⟩ := hg_some hF
  obtain ⟨n2, sn2, in2⟩ := hm_ib_ok g1
  refine jv_iastore hC dX3_valueOf_166 sn2 in2 ?_
  obtain ⟨M3, e4, hF⟩ := hl_some hF
  refine jv_mem e4 ?_
  refine jv_goto hC 210 dX3_valueOf_167 (by decide) ?_
  refine jv_iinc hC 3 [(5, .int (v5 + (1 : Int32))), (0, .ref v0), (2, .int v2), (4, .int v4)] dX3_valueOf_210 rfl c32_1 (by decide) rfl ?_
  refine jv_goto hC 48 dX3_valueOf_213 (by decide) ?_
  refine jv_sub [1, 2, 3, 0] (ls' := [(0, .ref v0), (2, .int v2), (4, .int v4), (5, .int (v5 + (1 : Int32)))]) rfl ?_
  exact jv_pc 48 rfl (hk48 _ _ _ _ _ _ _ hF)
set_option maxRecDepth 100000 in
set_option maxHeartbeats 4000000 in
theorem s_Laws_valueOf_3 {X : hm_X} {n : Nat} {S : hm_S} (hC : hm_C X RX3 cX3_valueOf 7 (some .int) 2 n S) {k48 : Nat → Int32 → Int32 → Int32 → hm_M → Option (Int32 × hm_M)} (hk48 : ∀ (v0 : Nat) (v2 : Int32) (v4 : Int32) (v5 : Int32)  (M : hm_M) (r : Int32) (M' : hm_M), k48 v0 v2 v4 v5 M = some (r, M') → hm_U X 48 [(0, .ref v0), (2, .int v2), (4, .int v4), (5, .int v5)] [] M (hm_Q X (some (.int r)) M')) {v0 : Nat} {v2 : Int32} {v4 : Int32} {v5 : Int32} {s0 : Int32} {s1 : Int32} {s2 : Nat} {M : hm_M} {r : Int32} {M' : hm_M} (hF : b_Laws_valueOf_3 S k48 v0 v2 v4 v5 s0 s1 s2 M = some (r, M')) : hm_U X 120 [(0, .ref v0), (2, .int v2), (4, .int v4), (5, .int v5)] [.int s0, .int s1, .ref s2] M (hm_Q X (some (.int r)) M') := by
  unfold b_Laws_valueOf_3 at hF
  obtain ⟨g1, hF⟩ := hg_some hF
  obtain ⟨n2, sn2, in2⟩ := hm_ib_ok g1
  refine jv_iastore hC dX3_valueOf_120 sn2 in2 ?_
  obtain ⟨M3, e4, hF⟩ := hl_some hF
  refine jv_mem e4 ?_
  refine jv_iinc hC 2 [(4, .int (v4 + (1 : Int32))), (0, .ref v0), (2, .int v2), (5, .int v5)] dX3_valueOf_121 rfl c32_1 (by decide) rfl ?_
  refine jv_goto hC 210 dX3_valueOf_124 (by decide) ?_
  refine jv_iinc hC 3 [(5, .int (v5 + (1 : Int32))), (4, .int (v4 + (1 : Int32))), (0, .ref v0), (2, .int v2)] dX3_valueOf_210 rfl c32_1 (by decide) rfl ?_
  refine jv_goto hC 48 dX3_valueOf_213 (by decide) ?_
  refine jv_sub [2, 3, 1, 0] (ls' := [(0, .ref v0), (2, .int v2), (4, .int (v4 + (1 : Int32))), (5, .int (v5 + (1 : Int32)))]) rfl ?_
  exact jv_pc 48 rfl (hk48 _ _ _ _ _ _ _ hF)
set_option maxRecDepth 100000 in
set_option maxHeartbeats 4000000 in
theorem s_Laws_valueOf_2 {X : hm_X} {n : Nat} {S : hm_S} (hC : hm_C X RX3 cX3_valueOf 7 (some .int) 2 n S) {k48 : Nat → Int32 → Int32 → Int32 → hm_M → Option (Int32 × hm_M)} (hk48 : ∀ (v0 : Nat) (v2 : Int32) (v4 : Int32) (v5 : Int32)  (M : hm_M) (r : Int32) (M' : hm_M), k48 v0 v2 v4 v5 M = some (r, M') → hm_U X 48 [(0, .ref v0), (2, .int v2), (4, .int v4), (5, .int v5)] [] M (hm_Q X (some (.int r)) M')) {v0 : Nat} {v2 : Int32} {v4 : Int32} {v5 : Int32} {v6 : Int32} {M : hm_M} {r : Int32} {M' : hm_M} (hF : b_Laws_valueOf_2 S k48 v0 v2 v4 v5 v6 M = some (r, M')) : hm_U X 85 [(0, .ref v0), (2, .int v2), (4, .int v4), (5, .int v5), (6, .int v6)] [] M (hm_Q X (some (.int r)) M') := by
  unfold b_Laws_valueOf_2 at hF
  refine jv_iload hC 2 dX3_valueOf_85 rfl ?_
  refine jv_bipush hC dX3_valueOf_87 c8_32 ?_
  refine jv_icmp_ge hC 210 dX3_valueOf_89 (by decide) (fun h1 => ?_) (fun h1 => ?_)
  · have hF := hi_pos h1 hF
    refine jv_iinc hC 3 [(5, .int (v5 + (1 : Int32))), (0, .ref v0), (2, .int v2), (4, .int v4), (6, .int v6)] dX3_valueOf_210 rfl c32_1 (by decide) rfl ?_
    refine jv_goto hC 48 dX3_valueOf_213 (by decide) ?_
    refine jv_sub [1, 2, 3, 0] (ls' := [(0, .ref v0), (2, .int v2), (4, .int v4), (5, .int (v5 + (1 : Int32)))]) rfl ?_
    exact jv_pc 48 rfl (hk48 _ _ _ _ _ _ _ hF)
  · have hF := hi_neg h1 hF
    refine jv_aload_n hC 0 dX3_valueOf_92 rfl ?_
    obtain ⟨g2, hF⟩ := hg_some hF
    obtain ⟨g3, hF⟩ := hg_some hF
    refine jv_getR hC fl_X3_25 dX3_valueOf_93 rfl g2 g3 ?_
    refine jv_iload hC 2 dX3_valueOf_96 rfl ?_
    refine jv_iload hC 4 dX3_valueOf_98 rfl ?_
    refine jv_if_lt hC 108 dX3_valueOf_100 (by decide) (fun h4 => ?_) (fun h4 => ?_)
    · have hF := hi_pos h4 hF
      refine jv_aload_n hC 0 dX3_valueOf_108 rfl ?_
      obtain ⟨g5, hF⟩ := hg_some hF
      refine jv_getR hC fl_X3_28 dX3_valueOf_109 rfl g2 g5 ?_
      refine jv_iload hC 4 dX3_valueOf_112 rfl ?_
      refine jv_ineg hC dX3_valueOf_114 ?_
      refine jv_sipush hC dX3_valueOf_115 c16_143 ?_
      refine jv_isub hC dX3_valueOf_118 ?_
      obtain ⟨g6, hF⟩ := hg_some hF
      obtain ⟨n7, sn7, in7⟩ := hm_ib_ok g6
      refine jv_iaload hC dX3_valueOf_119 sn7 in7 ?_
      refine jv_sub [0, 1, 2, 3] (ls' := [(0, .ref v0), (2, .int v2), (4, .int v4), (5, .int v5)]) rfl ?_
      exact jv_pc 120 rfl (s_Laws_valueOf_3 hC hk48 hF)
    · have hF := hi_neg h4 hF
      refine jv_iload hC 4 dX3_valueOf_103 rfl ?_
      refine jv_goto hC 120 dX3_valueOf_105 (by decide) ?_
      refine jv_sub [0, 1, 2, 3] (ls' := [(0, .ref v0), (2, .int v2), (4, .int v4), (5, .int v5)]) rfl ?_
      exact jv_pc 120 rfl (s_Laws_valueOf_3 hC hk48 hF)
set_option maxRecDepth 100000 in
set_option maxHeartbeats 4000000 in
theorem t_Laws_valueOf_1 {X : hm_X} {n : Nat} {S : hm_S} (hC : hm_C X RX3 cX3_valueOf 7 (some .int) 2 n S) {k48 : Nat → Int32 → Int32 → Int32 → hm_M → Option (Int32 × hm_M)} (hk48 : ∀ (v0 : Nat) (v2 : Int32) (v4 : Int32) (v5 : Int32)  (M : hm_M) (r : Int32) (M' : hm_M), k48 v0 v2 v4 v5 M = some (r, M') → hm_U X 48 [(0, .ref v0), (2, .int v2), (4, .int v4), (5, .int v5)] [] M (hm_Q X (some (.int r)) M')) {v0 : Nat} {v2 : Int32} {v4 : Int32} {v5 : Int32} {M : hm_M} {r : Int32} {M' : hm_M} (hF : b_Laws_valueOf_1 S k48 v0 v2 v4 v5 M = some (r, M')) : hm_U X 48 [(0, .ref v0), (2, .int v2), (4, .int v4), (5, .int v5)] [] M (hm_Q X (some (.int r)) M') := by
  unfold b_Laws_valueOf_1 at hF
  refine jv_iload hC 3 dX3_valueOf_48 rfl ?_
  refine jv_iload_n hC 1 dX3_valueOf_50 rfl ?_
  refine jv_icmp_ge hC 216 dX3_valueOf_51 (by decide) (fun h1 => ?_) (fun h1 => ?_)
  · have hF := hi_pos h1 hF
    refine jv_sub [0] (ls' := [(0, .ref v0)]) rfl ?_
    exact jv_pc 216 rfl (s_Laws_valueOf_5 hC hF)
  · have hF := hi_neg h1 hF
    refine jv_iload hC 3 dX3_valueOf_54 rfl ?_
    refine jv_sipush hC dX3_valueOf_56 c16_1000 ?_
    refine jv_icmp_ge hC 216 dX3_valueOf_59 (by decide) (fun h2 => ?_) (fun h2 => ?_)
    · have hF := hi_pos h2 hF
      refine jv_sub [0] (ls' := [(0, .ref v0)]) rfl ?_
      exact jv_pc 216 rfl (s_Laws_valueOf_5 hC hF)
    · have hF := hi_neg h2 hF
      refine jv_aload_n hC 0 dX3_valueOf_62 rfl ?_
      obtain ⟨g3, hF⟩ := hg_some hF
      obtain ⟨g4, hF⟩ := hg_some hF
      refine jv_getR hC fl_X3_9 dX3_valueOf_63 rfl g3 g4 ?_
      refine jv_iload hC 3 dX3_valueOf_66 rfl ?_
      obtain ⟨g5, hF⟩ := hg_some hF
      obtain ⟨n6, sn6, in6⟩ := hm_ib_ok g5
      refine jv_iaload hC dX3_valueOf_68 sn6 in6 ?_
      obtain ⟨x7, e8, hF⟩ := hl_some hF
      refine jv_topI e8 ?_
      refine jv_istore hC [(6, .int x7), (0, .ref v0), (2, .int v2), (4, .int v4), (5, .int v5)] dX3_valueOf_69 (by decide) rfl ?_
      refine jv_iload hC 0 dX3_valueOf_71 rfl ?_
      refine jv_if_ge hC 85 dX3_valueOf_73 (by decide) (fun h9 => ?_) (fun h9 => ?_)
      · have hF := hi_pos h9 hF
        refine jv_sub [1, 2, 3, 4, 0] (ls' := [(0, .ref v0), (2, .int v2), (4, .int v4), (5, .int v5), (6, .int x7)]) rfl ?_
        exact jv_pc 85 rfl (s_Laws_valueOf_2 hC hk48 hF)
      · have hF := hi_neg h9 hF
        refine jv_iload hC 0 dX3_valueOf_76 rfl ?_
        refine jv_ineg hC dX3_valueOf_78 ?_
        obtain ⟨r12, M11, c10, hF⟩ := hb_some hF
        refine jv_callS hC (st := []) [.int (-x7)] (k_Laws_isFact c10) mm_Laws_isFact ms_Laws_isFact ml_X3_41 dX3_valueOf_79 (Nat.le_of_ble_eq_true rfl) rfl rfl (Nat.le_of_ble_eq_true rfl) ?_
        refine jv_nf 82 [.int r12] rfl rfl ?_
        refine jv_if_eq hC 127 dX3_valueOf_82 (by decide) (fun h13 => ?_) (fun h13 => ?_)
        · have hF := hi_pos h13 hF
          refine jv_iload hC 0 dX3_valueOf_127 rfl ?_
          refine jv_sipush hC dX3_valueOf_129 c16_m140 ?_
          refine jv_icmp_ne hC 170 dX3_valueOf_132 (by decide) (fun h14 => ?_) (fun h14 => ?_)
          · have hF := hi_neg h14 hF
            refine jv_iload hC 3 dX3_valueOf_170 rfl ?_
            refine jv_iconst hC dX3_valueOf_172 c32_2 ?_
            refine jv_icmp_lt hC 210 dX3_valueOf_173 (by decide) (fun h15 => ?_) (fun h15 => ?_)
            · have hF := hi_pos h15 hF
              refine jv_iinc hC 4 [(5, .int (v5 + (1 : Int32))), (6, .int x7), (0, .ref v0), (2, .int v2), (4, .int v4)] dX3_valueOf_210 rfl c32_1 (by decide) rfl ?_
              refine jv_goto hC 48 dX3_valueOf_213 (by decide) ?_
              refine jv_sub [2, 3, 4, 0] (ls' := [(0, .ref v0), (2, .int v2), (4, .int v4), (5, .int (v5 + (1 : Int32)))]) rfl ?_
              exact jv_pc 48 rfl (hk48 _ _ _ _ _ _ _ hF)
            · have hF := hi_neg h15 hF
              refine jv_iinc hC 3 [(4, .int (v4 + (-1 : Int32))), (6, .int x7), (0, .ref v0), (2, .int v2), (5, .int v5)] dX3_valueOf_176 rfl c32_m1 (by decide) rfl ?_
              refine jv_aload_n hC 2 dX3_valueOf_179 rfl ?_
              obtain ⟨g16, hF⟩ := hg_some hF
              refine jv_getR hC fl_X3_25 dX3_valueOf_180 rfl g3 g16 ?_
              refine jv_iload hC 0 dX3_valueOf_183 rfl ?_
              refine jv_iconst hC dX3_valueOf_185 c32_1 ?_
              refine jv_isub hC dX3_valueOf_186 ?_
              refine jv_iload hC 1 dX3_valueOf_187 rfl ?_
              refine jv_pc 189 rfl ?_
              refine jv_ineg hC dX3_valueOf_189 ?_
              refine jv_aload_n hC 2 dX3_valueOf_190 rfl ?_
              refine jv_getR hC fl_X3_25 dX3_valueOf_191 rfl g3 g16 ?_
              refine jv_iload hC 0 dX3_valueOf_194 rfl ?_
              refine jv_iconst hC dX3_valueOf_196 c32_1 ?_
              refine jv_isub hC dX3_valueOf_197 ?_
              obtain ⟨g17, hF⟩ := hg_some hF
              obtain ⟨n18, sn18, in18⟩ := hm_ib_ok g17
              refine jv_iaload hC dX3_valueOf_198 sn18 in18 ?_
              refine jv_aload_n hC 2 dX3_valueOf_199 rfl ?_
              refine jv_pc 200 rfl ?_
              refine jv_getR hC fl_X3_25 dX3_valueOf_200 rfl g3 g16 ?_
              refine jv_iload hC 0 dX3_valueOf_203 rfl ?_
              obtain ⟨g19, hF⟩ := hg_some hF
              obtain ⟨n20, sn20, in20⟩ := hm_ib_ok g19
              refine jv_iaload hC dX3_valueOf_205 sn20 in20 ?_
              obtain ⟨r23, M22, c21, hF⟩ := hb_some hF
              refine jv_callS hC (st := [.int ((v4 + (-1 : Int32)) - (1 : Int32)), .ref (M11.2.2 v0 4)]) [.int (-x7), .int (M11.1 (M11.2.2 v0 4) ((v4 + (-1 : Int32)) - (1 : Int32)).toNatClampNeg), .int (M11.1 (M11.2.2 v0 4) (v4 + (-1 : Int32)).toNatClampNeg)] (k_Laws_joined c21) mm_Laws_joined ms_Laws_joined ml_X3_44 dX3_valueOf_206 (Nat.le_of_ble_eq_true rfl) rfl rfl (Nat.le_of_ble_eq_true rfl) ?_
              refine jv_nf 209 [.int r23, .int ((v4 + (-1 : Int32)) - (1 : Int32)), .ref (M11.2.2 v0 4)] rfl rfl ?_
              refine jv_iastore hC dX3_valueOf_209 sn18 in18 ?_
              obtain ⟨M24, e25, hF⟩ := hl_some hF
              refine jv_mem e25 ?_
              refine jv_iinc hC 4 [(5, .int (v5 + (1 : Int32))), (4, .int (v4 + (-1 : Int32))), (6, .int x7), (0, .ref v0), (2, .int v2)] dX3_valueOf_210 rfl c32_1 (by decide) rfl ?_
              refine jv_goto hC 48 dX3_valueOf_213 (by decide) ?_
              refine jv_sub [3, 4, 1, 0] (ls' := [(0, .ref v0), (2, .int v2), (4, .int (v4 + (-1 : Int32))), (5, .int (v5 + (1 : Int32)))]) rfl ?_
              exact jv_pc 48 rfl (hk48 _ _ _ _ _ _ _ hF)
          · have hF := hi_pos h14 hF
            refine jv_iload hC 3 dX3_valueOf_135 rfl ?_
            refine jv_iconst hC dX3_valueOf_137 c32_1 ?_
            refine jv_icmp_lt hC 210 dX3_valueOf_138 (by decide) (fun h26 => ?_) (fun h26 => ?_)
            · have hF := hi_pos h26 hF
              refine jv_iinc hC 4 [(5, .int (v5 + (1 : Int32))), (6, .int x7), (0, .ref v0), (2, .int v2), (4, .int v4)] dX3_valueOf_210 rfl c32_1 (by decide) rfl ?_
              refine jv_goto hC 48 dX3_valueOf_213 (by decide) ?_
              refine jv_sub [2, 3, 4, 0] (ls' := [(0, .ref v0), (2, .int v2), (4, .int v4), (5, .int (v5 + (1 : Int32)))]) rfl ?_
              exact jv_pc 48 rfl (hk48 _ _ _ _ _ _ _ hF)
            · have hF := hi_neg h26 hF
              refine jv_aload_n hC 1 dX3_valueOf_141 rfl ?_
              obtain ⟨g27, hF⟩ := hg_some hF
              refine jv_getR hC fl_X3_25 dX3_valueOf_142 rfl g3 g27 ?_
              refine jv_iload hC 3 dX3_valueOf_145 rfl ?_
              refine jv_iconst hC dX3_valueOf_147 c32_1 ?_
              refine jv_isub hC dX3_valueOf_148 ?_
              refine jv_aload_n hC 1 dX3_valueOf_149 rfl ?_
              refine jv_getR hC fl_X3_25 dX3_valueOf_150 rfl g3 g27 ?_
              refine jv_pc 153 rfl ?_
              refine jv_iload hC 3 dX3_valueOf_153 rfl ?_
              refine jv_iconst hC dX3_valueOf_155 c32_1 ?_
              refine jv_isub hC dX3_valueOf_156 ?_
              obtain ⟨g28, hF⟩ := hg_some hF
              obtain ⟨n29, sn29, in29⟩ := hm_ib_ok g28
              refine jv_iaload hC dX3_valueOf_157 sn29 in29 ?_
              refine jv_if_ne hC 165 dX3_valueOf_158 (by decide) (fun h30 => ?_) (fun h30 => ?_)
              · have hF := hi_neg h30 hF
                refine jv_iconst hC dX3_valueOf_165 c32_0 ?_
                refine jv_sub [1, 2, 3, 4] (ls' := [(0, .ref v0), (2, .int v2), (4, .int v4), (5, .int v5)]) rfl ?_
                exact jv_pc 166 rfl (s_Laws_valueOf_4 hC hk48 hF)
              · have hF := hi_pos h30 hF
                refine jv_iconst hC dX3_valueOf_161 c32_1 ?_
                refine jv_goto hC 166 dX3_valueOf_162 (by decide) ?_
                refine jv_sub [1, 2, 3, 4] (ls' := [(0, .ref v0), (2, .int v2), (4, .int v4), (5, .int v5)]) rfl ?_
                exact jv_pc 166 rfl (s_Laws_valueOf_4 hC hk48 hF)
        · have hF := hi_neg h13 hF
          refine jv_sub [1, 2, 3, 4, 0] (ls' := [(0, .ref v0), (2, .int v2), (4, .int v4), (5, .int v5), (6, .int x7)]) rfl ?_
          exact jv_pc 85 rfl (s_Laws_valueOf_2 hC hk48 hF)
theorem s_Laws_valueOf_1 {X : hm_X} {n : Nat} {S : hm_S} (hC : hm_C X RX3 cX3_valueOf 7 (some .int) 2 n S) : ∀ (q : Nat) (v0 : Nat) (v2 : Int32) (v4 : Int32) (v5 : Int32) (M : hm_M) (r : Int32) (M' : hm_M), f_Laws_valueOf_1 S  q v0 v2 v4 v5 M = some (r, M') → hm_U X 48 [(0, .ref v0), (2, .int v2), (4, .int v4), (5, .int v5)] [] M (hm_Q X (some (.int r)) M') := by
  intro q
  induction q with
  | zero => intro v0 v2 v4 v5 M r M' hF; cases hF
  | succ q ih => intro v0 v2 v4 v5 M r M' hF; exact t_Laws_valueOf_1 hC ih hF
set_option maxRecDepth 100000 in
set_option maxHeartbeats 4000000 in
theorem k_Laws_valueOf {n : Nat} {S : hm_S} {v0 : Nat} {v1 : Int32} {M : hm_M} {r : Int32} {M' : hm_M} (hF : f_Laws_valueOf S v0 v1 M = some (r, M')) : hm_KM yX3_valueOf cX3_valueOf 7 (some .int) 2 n S [.ref v0, .int v1] M (some (.int r)) M' := by
  refine hm_enter mm_Laws_valueOf (Nat.le_of_ble_eq_true rfl) (fun X hC => ?_)
  show hm_U X 0 [(0, .ref v0), (1, .int v1)] [] M _
  unfold f_Laws_valueOf at hF
  refine jv_iload_n hC 1 dX3_valueOf_0 rfl ?_
  obtain ⟨r3, M2, c1, hF⟩ := hb_some hF
  refine jv_callS hC (st := []) [.int v1] (k_Laws_isLaw c1) mm_Laws_isLaw ms_Laws_isLaw ml_X3_31 dX3_valueOf_1 (Nat.le_of_ble_eq_true rfl) rfl rfl (Nat.le_of_ble_eq_true rfl) ?_
  refine jv_nf 4 [.int r3] rfl rfl ?_
  refine jv_if_ne hC 9 dX3_valueOf_4 (by decide) (fun h4 => ?_) (fun h4 => ?_)
  · have hF := hi_neg h4 hF
    refine jv_aload_n hC 0 dX3_valueOf_9 rfl ?_
    obtain ⟨g5, hF⟩ := hg_some hF
    obtain ⟨g6, hF⟩ := hg_some hF
    refine jv_getR hC fl_X3_22 dX3_valueOf_10 rfl g5 g6 ?_
    refine jv_iload_n hC 1 dX3_valueOf_13 rfl ?_
    refine jv_sipush hC dX3_valueOf_14 c16_135 ?_
    refine jv_isub hC dX3_valueOf_17 ?_
    obtain ⟨g7, hF⟩ := hg_some hF
    obtain ⟨n8, sn8, in8⟩ := hm_ib_ok g7
    refine jv_iaload hC dX3_valueOf_18 sn8 in8 ?_
    obtain ⟨x9, e10, hF⟩ := hl_some hF
    refine jv_topI e10 ?_
    refine jv_istore_n hC [(2, .int x9), (0, .ref v0), (1, .int v1)] dX3_valueOf_19 (by decide) rfl ?_
    refine jv_pc 20 rfl ?_
    refine jv_aload_n hC 1 dX3_valueOf_20 rfl ?_
    obtain ⟨g11, hF⟩ := hg_some hF
    refine jv_getR hC fl_X3_19 dX3_valueOf_21 rfl g5 g11 ?_
    refine jv_iload_n hC 2 dX3_valueOf_24 rfl ?_
    refine jv_sipush hC dX3_valueOf_25 c16_135 ?_
    refine jv_isub hC dX3_valueOf_28 ?_
    obtain ⟨g12, hF⟩ := hg_some hF
    obtain ⟨n13, sn13, in13⟩ := hm_ib_ok g12
    refine jv_iaload hC dX3_valueOf_29 sn13 in13 ?_
    obtain ⟨x14, e15, hF⟩ := hl_some hF
    refine jv_topI e15 ?_
    refine jv_istore_n hC [(3, .int x14), (2, .int x9), (0, .ref v0), (1, .int v1)] dX3_valueOf_30 (by decide) rfl ?_
    refine jv_iload_n hC 0 dX3_valueOf_31 rfl ?_
    refine jv_pc 32 rfl ?_
    refine jv_iload_n hC 1 dX3_valueOf_32 rfl ?_
    refine jv_icmp_lt hC 42 dX3_valueOf_33 (by decide) (fun h16 => ?_) (fun h16 => ?_)
    · have hF := hi_pos h16 hF
      refine jv_iconst hC dX3_valueOf_42 c32_0 ?_
      refine jv_istore hC [(4, .int (0 : Int32)), (3, .int x14), (2, .int x9), (0, .ref v0), (1, .int v1)] dX3_valueOf_43 (by decide) rfl ?_
      refine jv_iload_n hC 1 dX3_valueOf_45 rfl ?_
      refine jv_istore hC [(5, .int x14), (4, .int (0 : Int32)), (3, .int x14), (2, .int x9), (0, .ref v0), (1, .int v1)] dX3_valueOf_46 (by decide) rfl ?_
      refine jv_sub [4, 3, 1, 0] (ls' := [(0, .ref v0), (2, .int x9), (4, .int (0 : Int32)), (5, .int x14)]) rfl ?_
      exact jv_pc 48 rfl (s_Laws_valueOf_1 hC hN _ _ _ _ _ _ _ hF)
    · have hF := hi_neg h16 hF
      refine jv_aload_n hC 2 dX3_valueOf_36 rfl ?_
      refine jv_iload_n hC 3 dX3_valueOf_37 rfl ?_
      obtain ⟨r19, M18, c17, hF⟩ := hb_some hF
      refine jv_callV hC (st := []) [.int v1] (k_Laws_valueUntold c17) mm_Laws_valueUntold mi_Laws_valueUntold ml_X3_37 dX3_valueOf_38 g5 rfl (Nat.le_of_ble_eq_true rfl) rfl rfl (Nat.le_of_ble_eq_true rfl) ?_
      refine jv_nf 41 [.int r19] rfl rfl ?_
      obtain ⟨rfl, rfl⟩ := hr_some hF
      exact jv_iret hC dX3_valueOf_41
  · have hF := hi_pos h4 hF
    refine jv_iconst hC dX3_valueOf_7 c32_0 ?_
    obtain ⟨rfl, rfl⟩ := hr_some hF
    exact jv_iret hC dX3_valueOf_8
set_option maxRecDepth 100000 in
set_option maxHeartbeats 4000000 in
theorem k_Laws_lookAtPane {n : Nat} {S : hm_S} {v0 : Nat} {v1 : Int32} {v2 : Int32} {M : hm_M} {M' : hm_M} (hF : f_Laws_lookAtPane S v0 v1 v2 M = some M') : hm_KM yX3_lookAtPane cX3_lookAtPane 3 none 1 n S [.ref v0, .int v1, .int v2] M none M' := by
  refine hm_enter mm_Laws_lookAtPane (Nat.le_of_ble_eq_true rfl) (fun X hC => ?_)
  show hm_U X 0 [(0, .ref v0), (1, .int v1), (2, .int v2)] [] M _
  unfold f_Laws_lookAtPane at hF
  refine jv_aload_n hC 0 dX3_lookAtPane_0 rfl ?_
  obtain ⟨g1, hF⟩ := hg_some hF
  obtain ⟨g2, hF⟩ := hg_some hF
  refine jv_getR hC fl_X3_28 dX3_lookAtPane_1 rfl g1 g2 ?_
  refine jv_iconst hC dX3_lookAtPane_4 c32_2 ?_
  refine jv_iload_n hC 1 dX3_lookAtPane_5 rfl ?_
  obtain ⟨g3, hF⟩ := hg_some hF
  obtain ⟨n4, sn4, in4⟩ := hm_ib_ok g3
  refine jv_iastore hC dX3_lookAtPane_6 sn4 in4 ?_
  obtain ⟨M5, e6, hF⟩ := hl_some hF
  refine jv_mem e6 ?_
  refine jv_aload_n hC 0 dX3_lookAtPane_7 rfl ?_
  obtain ⟨g7, hF⟩ := hg_some hF
  refine jv_getR hC fl_X3_28 dX3_lookAtPane_8 rfl g1 g7 ?_
  refine jv_pc 11 rfl ?_
  refine jv_iconst hC dX3_lookAtPane_11 c32_3 ?_
  refine jv_iload_n hC 2 dX3_lookAtPane_12 rfl ?_
  obtain ⟨g8, hF⟩ := hg_some hF
  obtain ⟨n9, sn9, in9⟩ := hm_ib_ok g8
  refine jv_iastore hC dX3_lookAtPane_13 sn9 in9 ?_
  obtain ⟨M10, e11, hF⟩ := hl_some hF
  refine jv_mem e11 ?_
  obtain rfl := hr_somev hF
  exact jv_vret hC dX3_lookAtPane_14
set_option maxRecDepth 100000 in
set_option maxHeartbeats 4000000 in
theorem k_Ps_placeOf {n : Nat} {S : hm_S} {v0 : Int32} {v1 : Int32} {M : hm_M} {r : Int32} {M' : hm_M} (hF : f_Ps_placeOf S v0 v1 M = some (r, M')) : hm_KM yX11_placeOf cX11_placeOf 2 (some .int) 1 n S [.int v0, .int v1] M (some (.int r)) M' := by
  refine hm_enter mm_Ps_placeOf (Nat.le_of_ble_eq_true rfl) (fun X hC => ?_)
  show hm_U X 0 [(0, .int v0), (1, .int v1)] [] M _
  unfold f_Ps_placeOf at hF
  refine jv_iload_n hC 1 dX11_placeOf_0 rfl ?_
  refine jv_bipush hC dX11_placeOf_1 c8_8 ?_
  refine jv_imul hC dX11_placeOf_3 ?_
  refine jv_iload_n hC 0 dX11_placeOf_4 rfl ?_
  refine jv_iadd hC dX11_placeOf_5 ?_
  obtain ⟨rfl, rfl⟩ := hr_some hF
  exact jv_iret hC dX11_placeOf_6
set_option maxRecDepth 100000 in
set_option maxHeartbeats 4000000 in
theorem s_Light_shine_4 {X : hm_X} {n : Nat} {S : hm_S} (hC : hm_C X RX4 cX4_shine 13 none 3 n S) {v0 : Nat} {v1 : Int32} {v3 : Int64} {v5 : Int64} {M : hm_M} {M' : hm_M} (hF : b_Light_shine_4 S v0 v1 v3 v5 M = some M') : hm_U X 181 [(0, .ref v0), (1, .int v1), (3, .long v3), (5, .long v5)] [] M (hm_Q X none M') := by
  unfold b_Light_shine_4 at hF
  refine jv_aload_n hC 0 dX4_shine_181 rfl ?_
  obtain ⟨g1, hF⟩ := hg_some hF
  obtain ⟨g2, hF⟩ := hg_some hF
  refine jv_getR hC fl_X4_22 dX4_shine_182 rfl g1 g2 ?_
  refine jv_iconst hC dX4_shine_185 c32_2 ?_
  refine jv_iload_n hC 1 dX4_shine_186 rfl ?_
  refine jv_imul hC dX4_shine_187 ?_
  refine jv_lload_n hC 2 dX4_shine_188 rfl ?_
  obtain ⟨g3, hF⟩ := hg_some hF
  obtain ⟨n4, sn4, in4⟩ := hm_ib_ok g3
  refine jv_lastore hC dX4_shine_189 sn4 in4 ?_
  obtain ⟨M5, e6, hF⟩ := hl_some hF
  refine jv_mem e6 ?_
  refine jv_pc 190 rfl ?_
  refine jv_aload_n hC 0 dX4_shine_190 rfl ?_
  obtain ⟨g7, hF⟩ := hg_some hF
  refine jv_getR hC fl_X4_22 dX4_shine_191 rfl g1 g7 ?_
  refine jv_iconst hC dX4_shine_194 c32_2 ?_
  refine jv_iload_n hC 1 dX4_shine_195 rfl ?_
  refine jv_imul hC dX4_shine_196 ?_
  refine jv_iconst hC dX4_shine_197 c32_1 ?_
  refine jv_iadd hC dX4_shine_198 ?_
  refine jv_lload hC 3 dX4_shine_199 rfl ?_
  refine jv_pc 201 rfl ?_
  obtain ⟨g8, hF⟩ := hg_some hF
  obtain ⟨n9, sn9, in9⟩ := hm_ib_ok g8
  refine jv_lastore hC dX4_shine_201 sn9 in9 ?_
  obtain ⟨M10, e11, hF⟩ := hl_some hF
  refine jv_mem e11 ?_
  obtain rfl := hr_somev hF
  exact jv_vret hC dX4_shine_202
set_option maxRecDepth 100000 in
set_option maxHeartbeats 4000000 in
theorem s_Light_shine_3 {X : hm_X} {n : Nat} {S : hm_S} (hC : hm_C X RX4 cX4_shine 13 none 3 n S) {k41 : Nat → Int32 → Nat → Int64 → Int64 → Int32 → Int32 → hm_M → Option hm_M} (hk41 : ∀ (v0 : Nat) (v1 : Int32) (v2 : Nat) (v3 : Int64) (v5 : Int64) (v7 : Int32) (v8 : Int32)  (M : hm_M) (M' : hm_M), k41 v0 v1 v2 v3 v5 v7 v8 M = some M' → hm_U X 41 [(0, .ref v0), (1, .int v1), (2, .ref v2), (3, .long v3), (5, .long v5), (7, .int v7), (8, .int v8)] [] M (hm_Q X none M')) {v0 : Nat} {v1 : Int32} {v2 : Nat} {v3 : Int64} {v5 : Int64} {v7 : Int32} {v8 : Int32} {s0 : Int64} {M : hm_M} {M' : hm_M} (hF : b_Light_shine_3 S k41 v0 v1 v2 v3 v5 v7 v8 s0 M = some M') : hm_U X 136 [(0, .ref v0), (1, .int v1), (2, .ref v2), (3, .long v3), (5, .long v5), (7, .int v7), (8, .int v8)] [.long s0] M (hm_Q X none M') := by
  unfold b_Light_shine_3 at hF
  refine jv_lstore hC [(11, .long s0), (0, .ref v0), (1, .int v1), (2, .ref v2), (3, .long v3), (5, .long v5), (7, .int v7), (8, .int v8)] dX4_shine_136 (by decide) rfl ?_
  refine jv_iload hC 7 dX4_shine_138 rfl ?_
  refine jv_bipush hC dX4_shine_140 c8_6 ?_
  refine jv_icmp_ge hC 159 dX4_shine_142 (by decide) (fun h1 => ?_) (fun h1 => ?_)
  · have hF := hi_pos h1 hF
    refine jv_lload hC 5 dX4_shine_159 rfl ?_
    refine jv_lload hC 0 dX4_shine_161 rfl ?_
    refine jv_bipush hC dX4_shine_163 c8_8 ?_
    refine jv_iload hC 7 dX4_shine_165 rfl ?_
    refine jv_bipush hC dX4_shine_167 c8_6 ?_
    refine jv_isub hC dX4_shine_169 ?_
    refine jv_imul hC dX4_shine_170 ?_
    refine jv_pc 171 rfl ?_
    refine jv_lshl hC dX4_shine_171 ?_
    refine jv_lor hC dX4_shine_172 ?_
    obtain ⟨x2, e3, hF⟩ := hl_some hF
    refine jv_topL e3 ?_
    refine jv_lstore hC [(5, .long x2), (11, .long s0), (0, .ref v0), (1, .int v1), (2, .ref v2), (3, .long v3), (7, .int v7), (8, .int v8)] dX4_shine_173 (by decide) rfl ?_
    refine jv_sub [0, 2, 3, 4, 5, 6, 7] (ls' := [(5, .long x2), (0, .ref v0), (1, .int v1), (2, .ref v2), (3, .long v3), (7, .int v7), (8, .int v8)]) rfl ?_
    refine jv_iinc hC 6 [(8, .int (v8 + (1 : Int32))), (5, .long x2), (0, .ref v0), (1, .int v1), (2, .ref v2), (3, .long v3), (7, .int v7)] dX4_shine_175 rfl c32_1 (by decide) rfl ?_
    refine jv_goto hC 41 dX4_shine_178 (by decide) ?_
    refine jv_sub [2, 3, 4, 5, 1, 6, 0] (ls' := [(0, .ref v0), (1, .int v1), (2, .ref v2), (3, .long v3), (5, .long x2), (7, .int v7), (8, .int (v8 + (1 : Int32)))]) rfl ?_
    exact jv_pc 41 rfl (hk41 _ _ _ _ _ _ _ _ _ hF)
  · have hF := hi_neg h1 hF
    refine jv_lload_n hC 4 dX4_shine_145 rfl ?_
    refine jv_lload hC 0 dX4_shine_146 rfl ?_
    refine jv_bipush hC dX4_shine_148 c8_8 ?_
    refine jv_iload hC 7 dX4_shine_150 rfl ?_
    refine jv_imul hC dX4_shine_152 ?_
    refine jv_lshl hC dX4_shine_153 ?_
    refine jv_lor hC dX4_shine_154 ?_
    refine jv_pc 155 rfl ?_
    obtain ⟨x4, e5, hF⟩ := hl_some hF
    refine jv_topL e5 ?_
    refine jv_lstore_n hC [(3, .long x4), (11, .long s0), (0, .ref v0), (1, .int v1), (2, .ref v2), (5, .long v5), (7, .int v7), (8, .int v8)] dX4_shine_155 (by decide) rfl ?_
    refine jv_sub [0, 2, 3, 4, 5, 6, 7] (ls' := [(3, .long x4), (0, .ref v0), (1, .int v1), (2, .ref v2), (5, .long v5), (7, .int v7), (8, .int v8)]) rfl ?_
    refine jv_goto hC 175 dX4_shine_156 (by decide) ?_
    refine jv_iinc hC 6 [(8, .int (v8 + (1 : Int32))), (3, .long x4), (0, .ref v0), (1, .int v1), (2, .ref v2), (5, .long v5), (7, .int v7)] dX4_shine_175 rfl c32_1 (by decide) rfl ?_
    refine jv_goto hC 41 dX4_shine_178 (by decide) ?_
    refine jv_sub [2, 3, 4, 1, 5, 6, 0] (ls' := [(0, .ref v0), (1, .int v1), (2, .ref v2), (3, .long x4), (5, .long v5), (7, .int v7), (8, .int (v8 + (1 : Int32)))]) rfl ?_
    exact jv_pc 41 rfl (hk41 _ _ _ _ _ _ _ _ _ hF)
set_option maxRecDepth 100000 in
set_option maxHeartbeats 4000000 in
theorem t_Light_shine_2 {X : hm_X} {n : Nat} {S : hm_S} (hC : hm_C X RX4 cX4_shine 13 none 3 n S) {k41 : Nat → Int32 → Nat → Int64 → Int64 → Int32 → Int32 → hm_M → Option hm_M} (hk41 : ∀ (v0 : Nat) (v1 : Int32) (v2 : Nat) (v3 : Int64) (v5 : Int64) (v7 : Int32) (v8 : Int32)  (M : hm_M) (M' : hm_M), k41 v0 v1 v2 v3 v5 v7 v8 M = some M' → hm_U X 41 [(0, .ref v0), (1, .int v1), (2, .ref v2), (3, .long v3), (5, .long v5), (7, .int v7), (8, .int v8)] [] M (hm_Q X none M')) {v0 : Nat} {v1 : Int32} {v2 : Nat} {v3 : Int64} {v5 : Int64} {v7 : Int32} {v8 : Int32} {M : hm_M} {M' : hm_M} (hF : b_Light_shine_2 S k41 v0 v1 v2 v3 v5 v7 v8 M = some M') : hm_U X 41 [(0, .ref v0), (1, .int v1), (2, .ref v2), (3, .long v3), (5, .long v5), (7, .int v7), (8, .int v8)] [] M (hm_Q X none M') := by
  unfold b_Light_shine_2 at hF
  refine jv_iload hC 6 dX4_shine_41 rfl ?_
  refine jv_iload hC 5 dX4_shine_43 rfl ?_
  refine jv_icmp_ge hC 181 dX4_shine_45 (by decide) (fun h1 => ?_) (fun h1 => ?_)
  · have hF := hi_pos h1 hF
    refine jv_sub [0, 1, 3, 4] (ls' := [(0, .ref v0), (1, .int v1), (3, .long v3), (5, .long v5)]) rfl ?_
    exact jv_pc 181 rfl (s_Light_shine_4 hC hF)
  · have hF := hi_neg h1 hF
    refine jv_iload hC 6 dX4_shine_48 rfl ?_
    refine jv_bipush hC dX4_shine_50 c8_12 ?_
    refine jv_icmp_ge hC 181 dX4_shine_52 (by decide) (fun h2 => ?_) (fun h2 => ?_)
    · have hF := hi_pos h2 hF
      refine jv_sub [0, 1, 3, 4] (ls' := [(0, .ref v0), (1, .int v1), (3, .long v3), (5, .long v5)]) rfl ?_
      exact jv_pc 181 rfl (s_Light_shine_4 hC hF)
    · have hF := hi_neg h2 hF
      refine jv_aload_n hC 2 dX4_shine_55 rfl ?_
      refine jv_aload_n hC 0 dX4_shine_56 rfl ?_
      obtain ⟨g3, hF⟩ := hg_some hF
      obtain ⟨g4, hF⟩ := hg_some hF
      refine jv_getR hC fl_X4_12 dX4_shine_57 rfl g3 g4 ?_
      obtain ⟨g5, hF⟩ := hg_some hF
      obtain ⟨g6, hF⟩ := hg_some hF
      refine jv_getR hC fl_X4_62 dX4_shine_60 rfl g5 g6 ?_
      refine jv_iload hC 6 dX4_shine_63 rfl ?_
      obtain ⟨g7, hF⟩ := hg_some hF
      obtain ⟨n8, sn8, in8⟩ := hm_ib_ok g7
      refine jv_iaload hC dX4_shine_65 sn8 in8 ?_
      refine jv_aload_n hC 0 dX4_shine_66 rfl ?_
      refine jv_pc 67 rfl ?_
      refine jv_getR hC fl_X4_12 dX4_shine_67 rfl g3 g4 ?_
      obtain ⟨g9, hF⟩ := hg_some hF
      refine jv_getR hC fl_X4_65 dX4_shine_70 rfl g5 g9 ?_
      refine jv_iload hC 6 dX4_shine_73 rfl ?_
      obtain ⟨g10, hF⟩ := hg_some hF
      obtain ⟨n11, sn11, in11⟩ := hm_ib_ok g10
      refine jv_iaload hC dX4_shine_75 sn11 in11 ?_
      obtain ⟨g12, hF⟩ := hg_some hF
      obtain ⟨M14, c13, hF⟩ := hv_some hF
      refine jv_callV hC (st := []) [.int (M.1 (M.2.2 (M.2.2 v0 0) 8) v8.toNatClampNeg), .int (M.1 (M.2.2 (M.2.2 v0 0) 9) v8.toNatClampNeg)] (k_Laws_lookAtPane c13) mm_Laws_lookAtPane mi_Laws_lookAtPane ml_X4_68 dX4_shine_76 g12 rfl (Nat.le_of_ble_eq_true rfl) rfl rfl (Nat.le_of_ble_eq_true rfl) ?_
      refine jv_nf 79 [] rfl rfl ?_
      refine jv_aload_n hC 0 dX4_shine_79 rfl ?_
      obtain ⟨g15, hF⟩ := hg_some hF
      refine jv_getR hC fl_X4_12 dX4_shine_80 rfl g3 g15 ?_
      obtain ⟨g16, hF⟩ := hg_some hF
      obtain ⟨g17, hF⟩ := hg_some hF
      refine jv_getR hC fl_X4_62 dX4_shine_83 rfl g16 g17 ?_
      refine jv_iload hC 6 dX4_shine_86 rfl ?_
      obtain ⟨g18, hF⟩ := hg_some hF
      obtain ⟨n19, sn19, in19⟩ := hm_ib_ok g18
      refine jv_iaload hC dX4_shine_88 sn19 in19 ?_
      refine jv_aload_n hC 2 dX4_shine_89 rfl ?_
      refine jv_sipush hC dX4_shine_90 c16_135 ?_
      refine jv_pc 93 rfl ?_
      obtain ⟨r22, M21, c20, hF⟩ := hb_some hF
      refine jv_callV hC (st := [.int (M14.1 (M14.2.2 (M14.2.2 v0 0) 8) v8.toNatClampNeg)]) [.int (135 : Int32)] (k_Laws_valueOf c20) mm_Laws_valueOf mi_Laws_valueOf ml_X4_55 dX4_shine_93 g12 rfl (Nat.le_of_ble_eq_true rfl) rfl rfl (Nat.le_of_ble_eq_true rfl) ?_
      refine jv_nf 96 [.int r22, .int (M14.1 (M14.2.2 (M14.2.2 v0 0) 8) v8.toNatClampNeg)] rfl rfl ?_
      refine jv_iadd hC dX4_shine_96 ?_
      obtain ⟨x23, e24, hF⟩ := hl_some hF
      refine jv_topI e24 ?_
      refine jv_istore hC [(9, .int x23), (0, .ref v0), (1, .int v1), (2, .ref v2), (3, .long v3), (5, .long v5), (7, .int v7), (8, .int v8)] dX4_shine_97 (by decide) rfl ?_
      refine jv_aload_n hC 3 dX4_shine_99 rfl ?_
      refine jv_sipush hC dX4_shine_100 c16_136 ?_
      obtain ⟨r27, M26, c25, hF⟩ := hb_some hF
      refine jv_callV hC (st := []) [.int (136 : Int32)] (k_Laws_valueOf c25) mm_Laws_valueOf mi_Laws_valueOf ml_X4_55 dX4_shine_103 g12 rfl (Nat.le_of_ble_eq_true rfl) rfl rfl (Nat.le_of_ble_eq_true rfl) ?_
      refine jv_nf 106 [.int r27] rfl rfl ?_
      refine jv_istore hC [(10, .int r27), (9, .int x23), (0, .ref v0), (1, .int v1), (2, .ref v2), (3, .long v3), (5, .long v5), (7, .int v7), (8, .int v8)] dX4_shine_106 (by decide) rfl ?_
      refine jv_aload_n hC 2 dX4_shine_108 rfl ?_
      obtain ⟨g28, hF⟩ := hg_some hF
      refine jv_getR hC fl_X4_12 dX4_shine_109 rfl g3 g28 ?_
      refine jv_iload hC 1 dX4_shine_112 rfl ?_
      refine jv_iload hC 0 dX4_shine_114 rfl ?_
      obtain ⟨g29, hF⟩ := hg_some hF
      obtain ⟨r32, M31, c30, hF⟩ := hb_some hF
      refine jv_callV hC (st := []) [.int x23, .int r27] (k_Chapel_hasPlace c30) mm_Chapel_hasPlace mi_Chapel_hasPlace ml_X4_72 dX4_shine_116 g29 rfl (Nat.le_of_ble_eq_true rfl) rfl rfl (Nat.le_of_ble_eq_true rfl) ?_
      refine jv_nf 119 [.int r32] rfl rfl ?_
      refine jv_if_eq hC 135 dX4_shine_119 (by decide) (fun h33 => ?_) (fun h33 => ?_)
      · have hF := hi_pos h33 hF
        refine jv_lconst hC (v := 0) dX4_shine_135 (by decide) ?_
        refine jv_sub [2, 3, 4, 5, 6, 7, 8] (ls' := [(0, .ref v0), (1, .int v1), (2, .ref v2), (3, .long v3), (5, .long v5), (7, .int v7), (8, .int v8)]) rfl ?_
        exact jv_pc 136 rfl (s_Light_shine_3 hC hk41 hF)
      · have hF := hi_neg h33 hF
        refine jv_iload hC 1 dX4_shine_122 rfl ?_
        refine jv_iload hC 0 dX4_shine_124 rfl ?_
        obtain ⟨r36, M35, c34, hF⟩ := hb_some hF
        refine jv_callSN hC (st := []) [.int x23, .int r27] (k_Ps_placeOf c34) mm_Ps_placeOf ms_Ps_placeOf ml_X4_76 dX4_shine_126 (Nat.le_of_ble_eq_true rfl) rfl rfl (Nat.le_of_ble_eq_true rfl) ?_
        refine jv_nf 129 [.int r36] rfl rfl ?_
        refine jv_iconst hC dX4_shine_129 c32_1 ?_
        refine jv_iadd hC dX4_shine_130 ?_
        refine jv_i2l hC dX4_shine_131 ?_
        refine jv_goto hC 136 dX4_shine_132 (by decide) ?_
        refine jv_sub [2, 3, 4, 5, 6, 7, 8] (ls' := [(0, .ref v0), (1, .int v1), (2, .ref v2), (3, .long v3), (5, .long v5), (7, .int v7), (8, .int v8)]) rfl ?_
        exact jv_pc 136 rfl (s_Light_shine_3 hC hk41 hF)
theorem s_Light_shine_2 {X : hm_X} {n : Nat} {S : hm_S} (hC : hm_C X RX4 cX4_shine 13 none 3 n S) : ∀ (q : Nat) (v0 : Nat) (v1 : Int32) (v2 : Nat) (v3 : Int64) (v5 : Int64) (v7 : Int32) (v8 : Int32) (M : hm_M) (M' : hm_M), f_Light_shine_2 S  q v0 v1 v2 v3 v5 v7 v8 M = some M' → hm_U X 41 [(0, .ref v0), (1, .int v1), (2, .ref v2), (3, .long v3), (5, .long v5), (7, .int v7), (8, .int v8)] [] M (hm_Q X none M') := by
  intro q
  induction q with
  | zero => intro v0 v1 v2 v3 v5 v7 v8 M M' hF; cases hF
  | succ q ih => intro v0 v1 v2 v3 v5 v7 v8 M M' hF; exact t_Light_shine_2 hC ih hF
set_option maxRecDepth 100000 in
set_option maxHeartbeats 4000000 in
theorem s_Light_shine_1 {X : hm_X} {n : Nat} {S : hm_S} (hC : hm_C X RX4 cX4_shine 13 none 3 n S) {v0 : Nat} {v1 : Int32} {v2 : Nat} {v3 : Int64} {v5 : Int64} {s0 : Int32} {M : hm_M} {M' : hm_M} (hF : b_Light_shine_1 S v0 v1 v2 v3 v5 s0 M = some M') : hm_U X 36 [(0, .ref v0), (1, .int v1), (2, .ref v2), (3, .long v3), (5, .long v5)] [.int s0] M (hm_Q X none M') := by
  unfold b_Light_shine_1 at hF
  refine jv_istore hC [(7, .int s0), (0, .ref v0), (1, .int v1), (2, .ref v2), (3, .long v3), (5, .long v5)] dX4_shine_36 (by decide) rfl ?_
  refine jv_iconst hC dX4_shine_38 c32_0 ?_
  refine jv_istore hC [(8, .int (0 : Int32)), (7, .int s0), (0, .ref v0), (1, .int v1), (2, .ref v2), (3, .long v3), (5, .long v5)] dX4_shine_39 (by decide) rfl ?_
  refine jv_sub [2, 3, 4, 5, 6, 1, 0] (ls' := [(0, .ref v0), (1, .int v1), (2, .ref v2), (3, .long v3), (5, .long v5), (7, .int s0), (8, .int (0 : Int32))]) rfl ?_
  exact jv_pc 41 rfl (s_Light_shine_2 hC hN _ _ _ _ _ _ _ _ _ hF)
set_option maxRecDepth 100000 in
set_option maxHeartbeats 4000000 in
theorem k_Light_shine {n : Nat} {S : hm_S} {v0 : Nat} {v1 : Int32} {M : hm_M} {M' : hm_M} (hF : f_Light_shine S v0 v1 M = some M') : hm_KM yX4_shine cX4_shine 13 none 3 n S [.ref v0, .int v1] M none M' := by
  refine hm_enter mm_Light_shine (Nat.le_of_ble_eq_true rfl) (fun X hC => ?_)
  show hm_U X 0 [(0, .ref v0), (1, .int v1)] [] M _
  unfold f_Light_shine at hF
  refine jv_aload_n hC 0 dX4_shine_0 rfl ?_
  obtain ⟨g1, hF⟩ := hg_some hF
  obtain ⟨g2, hF⟩ := hg_some hF
  refine jv_getR hC fl_X4_12 dX4_shine_1 rfl g1 g2 ?_
  obtain ⟨g3, hF⟩ := hg_some hF
  obtain ⟨g4, hF⟩ := hg_some hF
  refine jv_getR hC fl_X4_36 dX4_shine_4 rfl g3 g4 ?_
  obtain ⟨x5, e6, hF⟩ := hl_some hF
  refine jv_topR e6 ?_
  refine jv_astore_n hC [(2, .ref x5), (0, .ref v0), (1, .int v1)] dX4_shine_7 (by decide) rfl ?_
  refine jv_ldc2 hC cl_X4_46 dX4_shine_8 ?_
  refine jv_lstore_n hC [(3, .long (-9223372036854775808 : Int64)), (2, .ref x5), (0, .ref v0), (1, .int v1)] dX4_shine_11 (by decide) rfl ?_
  refine jv_lconst hC (v := 0) dX4_shine_12 (by decide) ?_
  refine jv_pc 13 rfl ?_
  refine jv_lstore hC [(5, .long (0 : Int64)), (3, .long (-9223372036854775808 : Int64)), (2, .ref x5), (0, .ref v0), (1, .int v1)] dX4_shine_13 (by decide) rfl ?_
  refine jv_aload_n hC 2 dX4_shine_15 rfl ?_
  refine jv_sipush hC dX4_shine_16 c16_137 ?_
  obtain ⟨g7, hF⟩ := hg_some hF
  obtain ⟨r10, M9, c8, hF⟩ := hb_some hF
  refine jv_callV hC (st := []) [.int (137 : Int32)] (k_Laws_valueOf c8) mm_Laws_valueOf mi_Laws_valueOf ml_X4_55 dX4_shine_19 g7 rfl (Nat.le_of_ble_eq_true rfl) rfl rfl (Nat.le_of_ble_eq_true rfl) ?_
  refine jv_nf 22 [.int r10] rfl rfl ?_
  refine jv_if_ne hC 35 dX4_shine_22 (by decide) (fun h11 => ?_) (fun h11 => ?_)
  · have hF := hi_neg h11 hF
    refine jv_iconst hC dX4_shine_35 c32_0 ?_
    refine jv_sub [3, 4, 2, 1, 0] (ls' := [(0, .ref v0), (1, .int v1), (2, .ref x5), (3, .long (-9223372036854775808 : Int64)), (5, .long (0 : Int64))]) rfl ?_
    exact jv_pc 36 rfl (s_Light_shine_1 hC hF)
  · have hF := hi_pos h11 hF
    refine jv_aload_n hC 3 dX4_shine_25 rfl ?_
    obtain ⟨g12, hF⟩ := hg_some hF
    refine jv_getR hC fl_X4_12 dX4_shine_26 rfl g1 g12 ?_
    obtain ⟨g13, hF⟩ := hg_some hF
    refine jv_getI hC fl_X4_59 dX4_shine_29 rfl g13 ?_
    refine jv_goto hC 36 dX4_shine_32 (by decide) ?_
    refine jv_sub [3, 4, 2, 1, 0] (ls' := [(0, .ref v0), (1, .int v1), (2, .ref x5), (3, .long (-9223372036854775808 : Int64)), (5, .long (0 : Int64))]) rfl ?_
    exact jv_pc 36 rfl (s_Light_shine_1 hC hF)
set_option maxRecDepth 100000 in
set_option maxHeartbeats 4000000 in
theorem t_Light_turnTo_2 {X : hm_X} {n : Nat} {S : hm_S} (hC : hm_C X RX4 cX4_turnTo 7 none 4 n S) {k82 : Nat → Int64 → Int64 → Int32 → hm_M → Option hm_M} (hk82 : ∀ (v0 : Nat) (v2 : Int64) (v4 : Int64) (v6 : Int32)  (M : hm_M) (M' : hm_M), k82 v0 v2 v4 v6 M = some M' → hm_U X 82 [(0, .ref v0), (2, .long v2), (4, .long v4), (6, .int v6)] [] M (hm_Q X none M')) {v0 : Nat} {v2 : Int64} {v4 : Int64} {v6 : Int32} {M : hm_M} {M' : hm_M} (hF : b_Light_turnTo_2 S k82 v0 v2 v4 v6 M = some M') : hm_U X 82 [(0, .ref v0), (2, .long v2), (4, .long v4), (6, .int v6)] [] M (hm_Q X none M') := by
  unfold b_Light_turnTo_2 at hF
  refine jv_iload hC 3 dX4_turnTo_82 rfl ?_
  refine jv_bipush hC dX4_turnTo_84 c8_6 ?_
  refine jv_icmp_ge hC 141 dX4_turnTo_86 (by decide) (fun h1 => ?_) (fun h1 => ?_)
  · have hF := hi_pos h1 hF
    obtain rfl := hr_somev hF
    exact jv_vret hC dX4_turnTo_141
  · have hF := hi_neg h1 hF
    refine jv_aload_n hC 0 dX4_turnTo_89 rfl ?_
    obtain ⟨g2, hF⟩ := hg_some hF
    obtain ⟨g3, hF⟩ := hg_some hF
    refine jv_getR hC fl_X4_18 dX4_turnTo_90 rfl g2 g3 ?_
    refine jv_iload hC 3 dX4_turnTo_93 rfl ?_
    refine jv_lload_n hC 1 dX4_turnTo_95 rfl ?_
    refine jv_bipush hC dX4_turnTo_96 c8_8 ?_
    refine jv_iload hC 3 dX4_turnTo_98 rfl ?_
    refine jv_imul hC dX4_turnTo_100 ?_
    refine jv_pc 101 rfl ?_
    refine jv_lushr hC dX4_turnTo_101 ?_
    refine jv_ldc2 hC cl_X4_51 dX4_turnTo_102 ?_
    refine jv_land hC dX4_turnTo_105 ?_
    refine jv_l2i hC dX4_turnTo_106 ?_
    refine jv_iconst hC dX4_turnTo_107 c32_1 ?_
    refine jv_isub hC dX4_turnTo_108 ?_
    obtain ⟨g4, hF⟩ := hg_some hF
    obtain ⟨n5, sn5, in5⟩ := hm_ib_ok g4
    refine jv_iastore hC dX4_turnTo_109 sn5 in5 ?_
    obtain ⟨M6, e7, hF⟩ := hl_some hF
    refine jv_mem e7 ?_
    refine jv_aload_n hC 0 dX4_turnTo_110 rfl ?_
    refine jv_pc 111 rfl ?_
    obtain ⟨g8, hF⟩ := hg_some hF
    refine jv_getR hC fl_X4_18 dX4_turnTo_111 rfl g2 g8 ?_
    refine jv_iload hC 3 dX4_turnTo_114 rfl ?_
    refine jv_bipush hC dX4_turnTo_116 c8_6 ?_
    refine jv_iadd hC dX4_turnTo_118 ?_
    refine jv_lload hC 2 dX4_turnTo_119 rfl ?_
    refine jv_bipush hC dX4_turnTo_121 c8_8 ?_
    refine jv_iload hC 3 dX4_turnTo_123 rfl ?_
    refine jv_imul hC dX4_turnTo_125 ?_
    refine jv_pc 126 rfl ?_
    refine jv_lushr hC dX4_turnTo_126 ?_
    refine jv_ldc2 hC cl_X4_51 dX4_turnTo_127 ?_
    refine jv_land hC dX4_turnTo_130 ?_
    refine jv_l2i hC dX4_turnTo_131 ?_
    refine jv_iconst hC dX4_turnTo_132 c32_1 ?_
    refine jv_isub hC dX4_turnTo_133 ?_
    obtain ⟨g9, hF⟩ := hg_some hF
    obtain ⟨n10, sn10, in10⟩ := hm_ib_ok g9
    refine jv_iastore hC dX4_turnTo_134 sn10 in10 ?_
    obtain ⟨M11, e12, hF⟩ := hl_some hF
    refine jv_mem e12 ?_
    refine jv_iinc hC 3 [(6, .int (v6 + (1 : Int32))), (0, .ref v0), (2, .long v2), (4, .long v4)] dX4_turnTo_135 rfl c32_1 (by decide) rfl ?_
    refine jv_goto hC 82 dX4_turnTo_138 (by decide) ?_
    refine jv_sub [1, 2, 3, 0] (ls' := [(0, .ref v0), (2, .long v2), (4, .long v4), (6, .int (v6 + (1 : Int32)))]) rfl ?_
    exact jv_pc 82 rfl (hk82 _ _ _ _ _ _ hF)
theorem s_Light_turnTo_2 {X : hm_X} {n : Nat} {S : hm_S} (hC : hm_C X RX4 cX4_turnTo 7 none 4 n S) : ∀ (q : Nat) (v0 : Nat) (v2 : Int64) (v4 : Int64) (v6 : Int32) (M : hm_M) (M' : hm_M), f_Light_turnTo_2 S  q v0 v2 v4 v6 M = some M' → hm_U X 82 [(0, .ref v0), (2, .long v2), (4, .long v4), (6, .int v6)] [] M (hm_Q X none M') := by
  intro q
  induction q with
  | zero => intro v0 v2 v4 v6 M M' hF; cases hF
  | succ q ih => intro v0 v2 v4 v6 M M' hF; exact t_Light_turnTo_2 hC ih hF
set_option maxRecDepth 100000 in
set_option maxHeartbeats 4000000 in
theorem s_Light_turnTo_1 {X : hm_X} {n : Nat} {S : hm_S} (hC : hm_C X RX4 cX4_turnTo 7 none 4 n S) {v0 : Nat} {v1 : Int32} {M : hm_M} {M' : hm_M} (hF : b_Light_turnTo_1 S v0 v1 M = some M') : hm_U X 58 [(0, .ref v0), (1, .int v1)] [] M (hm_Q X none M') := by
  unfold b_Light_turnTo_1 at hF
  refine jv_aload_n hC 0 dX4_turnTo_58 rfl ?_
  obtain ⟨g1, hF⟩ := hg_some hF
  obtain ⟨g2, hF⟩ := hg_some hF
  refine jv_getR hC fl_X4_22 dX4_turnTo_59 rfl g1 g2 ?_
  refine jv_iconst hC dX4_turnTo_62 c32_2 ?_
  refine jv_iload_n hC 1 dX4_turnTo_63 rfl ?_
  refine jv_imul hC dX4_turnTo_64 ?_
  obtain ⟨g3, hF⟩ := hg_some hF
  obtain ⟨n4, sn4, in4⟩ := hm_ib_ok g3
  refine jv_laload hC dX4_turnTo_65 sn4 in4 ?_
  obtain ⟨x5, e6, hF⟩ := hl_some hF
  refine jv_topL e6 ?_
  refine jv_lstore_n hC [(2, .long x5), (0, .ref v0), (1, .int v1)] dX4_turnTo_66 (by decide) rfl ?_
  refine jv_pc 67 rfl ?_
  refine jv_aload_n hC 1 dX4_turnTo_67 rfl ?_
  refine jv_getR hC fl_X4_22 dX4_turnTo_68 rfl g1 g2 ?_
  refine jv_iconst hC dX4_turnTo_71 c32_2 ?_
  refine jv_iload_n hC 2 dX4_turnTo_72 rfl ?_
  refine jv_imul hC dX4_turnTo_73 ?_
  refine jv_iconst hC dX4_turnTo_74 c32_1 ?_
  refine jv_iadd hC dX4_turnTo_75 ?_
  obtain ⟨g7, hF⟩ := hg_some hF
  obtain ⟨n8, sn8, in8⟩ := hm_ib_ok g7
  refine jv_laload hC dX4_turnTo_76 sn8 in8 ?_
  refine jv_pc 77 rfl ?_
  obtain ⟨x9, e10, hF⟩ := hl_some hF
  refine jv_topL e10 ?_
  refine jv_lstore hC [(4, .long x9), (2, .long x5), (0, .ref v0), (1, .int v1)] dX4_turnTo_77 (by decide) rfl ?_
  refine jv_iconst hC dX4_turnTo_79 c32_0 ?_
  refine jv_istore hC [(6, .int (0 : Int32)), (4, .long x9), (2, .long x5), (0, .ref v0), (1, .int v1)] dX4_turnTo_80 (by decide) rfl ?_
  refine jv_sub [3, 2, 1, 0] (ls' := [(0, .ref v0), (2, .long x5), (4, .long x9), (6, .int (0 : Int32))]) rfl ?_
  exact jv_pc 82 rfl (s_Light_turnTo_2 hC hN _ _ _ _ _ _ hF)
set_option maxRecDepth 100000 in
set_option maxHeartbeats 4000000 in
theorem k_Light_turnTo {n : Nat} {S : hm_S} {v0 : Nat} {v1 : Int32} {M : hm_M} {M' : hm_M} (hF : f_Light_turnTo S v0 v1 M = some M') : hm_KM yX4_turnTo cX4_turnTo 7 none 4 n S [.ref v0, .int v1] M none M' := by
  refine hm_enter mm_Light_turnTo (Nat.le_of_ble_eq_true rfl) (fun X hC => ?_)
  show hm_U X 0 [(0, .ref v0), (1, .int v1)] [] M _
  unfold f_Light_turnTo at hF
  refine jv_iload_n hC 1 dX4_turnTo_0 rfl ?_
  refine jv_aload_n hC 0 dX4_turnTo_1 rfl ?_
  obtain ⟨g1, hF⟩ := hg_some hF
  refine jv_getI hC fl_X4_26 dX4_turnTo_2 rfl g1 ?_
  refine jv_icmp_eq hC 19 dX4_turnTo_5 (by decide) (fun h2 => ?_) (fun h2 => ?_)
  · have hF := hi_pos h2 hF
    obtain rfl := hr_somev hF
    exact jv_vret hC dX4_turnTo_19
  · have hF := hi_neg h2 hF
    refine jv_iload_n hC 1 dX4_turnTo_8 rfl ?_
    refine jv_if_lt hC 19 dX4_turnTo_9 (by decide) (fun h3 => ?_) (fun h3 => ?_)
    · have hF := hi_pos h3 hF
      obtain rfl := hr_somev hF
      exact jv_vret hC dX4_turnTo_19
    · have hF := hi_neg h3 hF
      refine jv_iload_n hC 1 dX4_turnTo_12 rfl ?_
      refine jv_sipush hC dX4_turnTo_13 c16_1248 ?_
      refine jv_icmp_lt hC 20 dX4_turnTo_16 (by decide) (fun h4 => ?_) (fun h4 => ?_)
      · have hF := hi_pos h4 hF
        refine jv_aload_n hC 0 dX4_turnTo_20 rfl ?_
        refine jv_iload_n hC 1 dX4_turnTo_21 rfl ?_
        refine jv_putI hC fl_X4_26 dX4_turnTo_22 rfl rfl rfl g1 ?_
        obtain ⟨M5, e6, hF⟩ := hl_some hF
        refine jv_mem e6 ?_
        refine jv_aload_n hC 0 dX4_turnTo_25 rfl ?_
        obtain ⟨g7, hF⟩ := hg_some hF
        refine jv_getR hC fl_X4_12 dX4_turnTo_26 rfl g1 g7 ?_
        obtain ⟨g8, hF⟩ := hg_some hF
        obtain ⟨g9, hF⟩ := hg_some hF
        refine jv_getR hC fl_X4_36 dX4_turnTo_29 rfl g8 g9 ?_
        refine jv_iload_n hC 1 dX4_turnTo_32 rfl ?_
        refine jv_pc 33 rfl ?_
        obtain ⟨g10, hF⟩ := hg_some hF
        obtain ⟨M12, c11, hF⟩ := hv_some hF
        refine jv_callV hC (st := []) [.int v1] (k_Laws_turnTo c11) mm_Laws_turnTo mi_Laws_turnTo ml_X4_40 dX4_turnTo_33 g10 rfl (Nat.le_of_ble_eq_true rfl) rfl rfl (Nat.le_of_ble_eq_true rfl) ?_
        refine jv_nf 36 [] rfl rfl ?_
        refine jv_aload_n hC 0 dX4_turnTo_36 rfl ?_
        obtain ⟨g13, hF⟩ := hg_some hF
        refine jv_getR hC fl_X4_22 dX4_turnTo_37 rfl g1 g13 ?_
        refine jv_iconst hC dX4_turnTo_40 c32_2 ?_
        refine jv_iload_n hC 1 dX4_turnTo_41 rfl ?_
        refine jv_imul hC dX4_turnTo_42 ?_
        obtain ⟨g14, hF⟩ := hg_some hF
        obtain ⟨n15, sn15, in15⟩ := hm_ib_ok g14
        refine jv_laload hC dX4_turnTo_43 sn15 in15 ?_
        refine jv_ldc2 hC cl_X4_46 dX4_turnTo_44 ?_
        refine jv_pc 47 rfl ?_
        refine jv_land hC dX4_turnTo_47 ?_
        refine jv_lconst hC (v := 0) dX4_turnTo_48 (by decide) ?_
        refine jv_lcmp hC dX4_turnTo_49 ?_
        refine jv_if_ne hC 58 dX4_turnTo_50 (by decide) (fun h16 => ?_) (fun h16 => ?_)
        · have hF := hi_neg h16 hF
          exact jv_pc 58 rfl (s_Light_turnTo_1 hC hF)
        · have hF := hi_pos h16 hF
          refine jv_aload_n hC 0 dX4_turnTo_53 rfl ?_
          refine jv_iload_n hC 1 dX4_turnTo_54 rfl ?_
          obtain ⟨M18, c17, hF⟩ := hv_some hF
          refine jv_callV hC (st := []) [.int v1] (k_Light_shine c17) mm_Light_shine mi_Light_shine ml_X4_48 dX4_turnTo_55 g1 rfl (Nat.le_of_ble_eq_true rfl) rfl rfl (Nat.le_of_ble_eq_true rfl) ?_
          refine jv_nf 58 [] rfl rfl ?_
          exact jv_pc 58 rfl (s_Light_turnTo_1 hC hF)
      · have hF := hi_neg h4 hF
        obtain rfl := hr_somev hF
        exact jv_vret hC dX4_turnTo_19
set_option maxRecDepth 100000 in
set_option maxHeartbeats 4000000 in
theorem t_Light_placesOf_1 {X : hm_X} {n : Nat} {S : hm_S} (hC : hm_C X RX4 cX4_placesOf 5 (some .long) 1 n S) {k5 : Nat → Int32 → Int64 → Int32 → hm_M → Option (Int64 × hm_M)} (hk5 : ∀ (v0 : Nat) (v1 : Int32) (v2 : Int64) (v4 : Int32)  (M : hm_M) (r : Int64) (M' : hm_M), k5 v0 v1 v2 v4 M = some (r, M') → hm_U X 5 [(0, .ref v0), (1, .int v1), (2, .long v2), (4, .int v4)] [] M (hm_Q X (some (.long r)) M')) {v0 : Nat} {v1 : Int32} {v2 : Int64} {v4 : Int32} {M : hm_M} {r : Int64} {M' : hm_M} (hF : b_Light_placesOf_1 S k5 v0 v1 v2 v4 M = some (r, M')) : hm_U X 5 [(0, .ref v0), (1, .int v1), (2, .long v2), (4, .int v4)] [] M (hm_Q X (some (.long r)) M') := by
  unfold b_Light_placesOf_1 at hF
  refine jv_iload hC 3 dX4_placesOf_5 rfl ?_
  refine jv_bipush hC dX4_placesOf_7 c8_12 ?_
  refine jv_icmp_ge hC 51 dX4_placesOf_9 (by decide) (fun h1 => ?_) (fun h1 => ?_)
  · have hF := hi_pos h1 hF
    refine jv_lload_n hC 2 dX4_placesOf_51 rfl ?_
    obtain ⟨rfl, rfl⟩ := hr_some hF
    exact jv_lret hC dX4_placesOf_52
  · have hF := hi_neg h1 hF
    refine jv_aload_n hC 0 dX4_placesOf_12 rfl ?_
    obtain ⟨g2, hF⟩ := hg_some hF
    obtain ⟨g3, hF⟩ := hg_some hF
    refine jv_getR hC fl_X4_18 dX4_placesOf_13 rfl g2 g3 ?_
    refine jv_iload hC 3 dX4_placesOf_16 rfl ?_
    obtain ⟨g4, hF⟩ := hg_some hF
    obtain ⟨n5, sn5, in5⟩ := hm_ib_ok g4
    refine jv_iaload hC dX4_placesOf_18 sn5 in5 ?_
    refine jv_iconst hC dX4_placesOf_19 c32_m1 ?_
    refine jv_icmp_eq hC 45 dX4_placesOf_20 (by decide) (fun h6 => ?_) (fun h6 => ?_)
    · have hF := hi_pos h6 hF
      refine jv_iinc hC 3 [(4, .int (v4 + (1 : Int32))), (0, .ref v0), (1, .int v1), (2, .long v2)] dX4_placesOf_45 rfl c32_1 (by decide) rfl ?_
      refine jv_goto hC 5 dX4_placesOf_48 (by decide) ?_
      refine jv_sub [1, 2, 3, 0] (ls' := [(0, .ref v0), (1, .int v1), (2, .long v2), (4, .int (v4 + (1 : Int32)))]) rfl ?_
      exact jv_pc 5 rfl (hk5 _ _ _ _ _ _ _ hF)
    · have hF := hi_neg h6 hF
      refine jv_iload_n hC 1 dX4_placesOf_23 rfl ?_
      refine jv_iload hC 3 dX4_placesOf_24 rfl ?_
      refine jv_ishr hC dX4_placesOf_26 ?_
      refine jv_iconst hC dX4_placesOf_27 c32_1 ?_
      refine jv_iand hC dX4_placesOf_28 ?_
      refine jv_iconst hC dX4_placesOf_29 c32_1 ?_
      refine jv_icmp_ne hC 45 dX4_placesOf_30 (by decide) (fun h7 => ?_) (fun h7 => ?_)
      · have hF := hi_neg h7 hF
        refine jv_iinc hC 3 [(4, .int (v4 + (1 : Int32))), (0, .ref v0), (1, .int v1), (2, .long v2)] dX4_placesOf_45 rfl c32_1 (by decide) rfl ?_
        refine jv_goto hC 5 dX4_placesOf_48 (by decide) ?_
        refine jv_sub [1, 2, 3, 0] (ls' := [(0, .ref v0), (1, .int v1), (2, .long v2), (4, .int (v4 + (1 : Int32)))]) rfl ?_
        exact jv_pc 5 rfl (hk5 _ _ _ _ _ _ _ hF)
      · have hF := hi_pos h7 hF
        refine jv_lload_n hC 2 dX4_placesOf_33 rfl ?_
        refine jv_lconst hC (v := 1) dX4_placesOf_34 (by decide) ?_
        refine jv_aload_n hC 0 dX4_placesOf_35 rfl ?_
        refine jv_getR hC fl_X4_18 dX4_placesOf_36 rfl g2 g3 ?_
        refine jv_iload hC 3 dX4_placesOf_39 rfl ?_
        refine jv_iaload hC dX4_placesOf_41 sn5 in5 ?_
        refine jv_lshl hC dX4_placesOf_42 ?_
        refine jv_pc 43 rfl ?_
        refine jv_lor hC dX4_placesOf_43 ?_
        obtain ⟨x8, e9, hF⟩ := hl_some hF
        refine jv_topL e9 ?_
        refine jv_lstore_n hC [(2, .long x8), (0, .ref v0), (1, .int v1), (4, .int v4)] dX4_placesOf_44 (by decide) rfl ?_
        refine jv_iinc hC 3 [(4, .int (v4 + (1 : Int32))), (2, .long x8), (0, .ref v0), (1, .int v1)] dX4_placesOf_45 rfl c32_1 (by decide) rfl ?_
        refine jv_goto hC 5 dX4_placesOf_48 (by decide) ?_
        refine jv_sub [2, 3, 1, 0] (ls' := [(0, .ref v0), (1, .int v1), (2, .long x8), (4, .int (v4 + (1 : Int32)))]) rfl ?_
        exact jv_pc 5 rfl (hk5 _ _ _ _ _ _ _ hF)
theorem s_Light_placesOf_1 {X : hm_X} {n : Nat} {S : hm_S} (hC : hm_C X RX4 cX4_placesOf 5 (some .long) 1 n S) : ∀ (q : Nat) (v0 : Nat) (v1 : Int32) (v2 : Int64) (v4 : Int32) (M : hm_M) (r : Int64) (M' : hm_M), f_Light_placesOf_1 S  q v0 v1 v2 v4 M = some (r, M') → hm_U X 5 [(0, .ref v0), (1, .int v1), (2, .long v2), (4, .int v4)] [] M (hm_Q X (some (.long r)) M') := by
  intro q
  induction q with
  | zero => intro v0 v1 v2 v4 M r M' hF; cases hF
  | succ q ih => intro v0 v1 v2 v4 M r M' hF; exact t_Light_placesOf_1 hC ih hF
set_option maxRecDepth 100000 in
set_option maxHeartbeats 4000000 in
theorem k_Light_placesOf {n : Nat} {S : hm_S} {v0 : Nat} {v1 : Int32} {M : hm_M} {r : Int64} {M' : hm_M} (hF : f_Light_placesOf S v0 v1 M = some (r, M')) : hm_KM yX4_placesOf cX4_placesOf 5 (some .long) 1 n S [.ref v0, .int v1] M (some (.long r)) M' := by
  refine hm_enter mm_Light_placesOf (Nat.le_of_ble_eq_true rfl) (fun X hC => ?_)
  show hm_U X 0 [(0, .ref v0), (1, .int v1)] [] M _
  unfold f_Light_placesOf at hF
  refine jv_lconst hC (v := 0) dX4_placesOf_0 (by decide) ?_
  refine jv_lstore_n hC [(2, .long (0 : Int64)), (0, .ref v0), (1, .int v1)] dX4_placesOf_1 (by decide) rfl ?_
  refine jv_iconst hC dX4_placesOf_2 c32_0 ?_
  refine jv_istore hC [(4, .int (0 : Int32)), (2, .long (0 : Int64)), (0, .ref v0), (1, .int v1)] dX4_placesOf_3 (by decide) rfl ?_
  refine jv_sub [2, 3, 1, 0] (ls' := [(0, .ref v0), (1, .int v1), (2, .long (0 : Int64)), (4, .int (0 : Int32))]) rfl ?_
  exact jv_pc 5 rfl (s_Light_placesOf_1 hC hN _ _ _ _ _ _ _ hF)
set_option maxRecDepth 100000 in
set_option maxHeartbeats 4000000 in
theorem k_Ps_stepsBetween {n : Nat} {S : hm_S} {v0 : Int32} {v1 : Int32} {M : hm_M} {r : Int32} {M' : hm_M} (hF : f_Ps_stepsBetween S v0 v1 M = some (r, M')) : hm_KM yX11_stepsBetween cX11_stepsBetween 2 (some .int) 1 n S [.int v0, .int v1] M (some (.int r)) M' := by
  refine hm_enter mm_Ps_stepsBetween (Nat.le_of_ble_eq_true rfl) (fun X hC => ?_)
  show hm_U X 0 [(0, .int v0), (1, .int v1)] [] M _
  unfold f_Ps_stepsBetween at hF
  refine jv_iload_n hC 0 dX11_stepsBetween_0 rfl ?_
  refine jv_bipush hC dX11_stepsBetween_1 c8_8 ?_
  refine jv_irem hC dX11_stepsBetween_3 (by decide) ?_
  refine jv_iload_n hC 1 dX11_stepsBetween_4 rfl ?_
  refine jv_bipush hC dX11_stepsBetween_5 c8_8 ?_
  refine jv_irem hC dX11_stepsBetween_7 (by decide) ?_
  refine jv_isub hC dX11_stepsBetween_8 ?_
  refine jv_pc 9 rfl ?_
  refine jv_mabs hC ml_X11_304 dX11_stepsBetween_9 (by omega) (Nat.le_of_ble_eq_true rfl) ?_
  refine jv_iload_n hC 0 dX11_stepsBetween_12 rfl ?_
  refine jv_bipush hC dX11_stepsBetween_13 c8_8 ?_
  refine jv_idiv hC dX11_stepsBetween_15 (by decide) ?_
  refine jv_iload_n hC 1 dX11_stepsBetween_16 rfl ?_
  refine jv_bipush hC dX11_stepsBetween_17 c8_8 ?_
  refine jv_idiv hC dX11_stepsBetween_19 (by decide) ?_
  refine jv_isub hC dX11_stepsBetween_20 ?_
  refine jv_pc 21 rfl ?_
  refine jv_mabs hC ml_X11_304 dX11_stepsBetween_21 (by omega) (Nat.le_of_ble_eq_true rfl) ?_
  refine jv_iadd hC dX11_stepsBetween_24 ?_
  obtain ⟨rfl, rfl⟩ := hr_some hF
  exact jv_iret hC dX11_stepsBetween_25
set_option maxRecDepth 100000 in
set_option maxHeartbeats 4000000 in
theorem s_Way_stepsOver_1 {X : hm_X} {n : Nat} {S : hm_S} (hC : hm_C X RX10 cX10_stepsOver 5 (some .int) 2 n S) {v0 : Nat} {v2 : Int32} {v3 : Int32} {s0 : Int32} {M : hm_M} {r : Int32} {M' : hm_M} (hF : b_Way_stepsOver_1 S v0 v2 v3 s0 M = some (r, M')) : hm_U X 14 [(0, .ref v0), (2, .int v2), (3, .int v3)] [.int s0] M (hm_Q X (some (.int r)) M') := by
  unfold b_Way_stepsOver_1 at hF
  refine jv_istore hC [(4, .int s0), (0, .ref v0), (2, .int v2), (3, .int v3)] dX10_stepsOver_14 (by decide) rfl ?_
  refine jv_iload hC 0 dX10_stepsOver_16 rfl ?_
  refine jv_aload_n hC 1 dX10_stepsOver_18 rfl ?_
  obtain ⟨g1, hF⟩ := hg_some hF
  obtain ⟨g2, hF⟩ := hg_some hF
  refine jv_getR hC fl_X10_15 dX10_stepsOver_19 rfl g1 g2 ?_
  refine jv_iload_n hC 2 dX10_stepsOver_22 rfl ?_
  refine jv_bipush hC dX10_stepsOver_23 c8_64 ?_
  refine jv_imul hC dX10_stepsOver_25 ?_
  refine jv_pc 26 rfl ?_
  refine jv_iload_n hC 3 dX10_stepsOver_26 rfl ?_
  refine jv_iadd hC dX10_stepsOver_27 ?_
  obtain ⟨g3, hF⟩ := hg_some hF
  obtain ⟨n4, sn4, in4⟩ := hm_ib_ok g3
  refine jv_iaload hC dX10_stepsOver_28 sn4 in4 ?_
  refine jv_iadd hC dX10_stepsOver_29 ?_
  obtain ⟨rfl, rfl⟩ := hr_some hF
  exact jv_iret hC dX10_stepsOver_30
set_option maxRecDepth 100000 in
set_option maxHeartbeats 4000000 in
theorem k_Way_stepsOver {n : Nat} {S : hm_S} {v0 : Nat} {v1 : Int32} {v2 : Int32} {v3 : Int32} {M : hm_M} {r : Int32} {M' : hm_M} (hF : f_Way_stepsOver S v0 v1 v2 v3 M = some (r, M')) : hm_KM yX10_stepsOver cX10_stepsOver 5 (some .int) 2 n S [.ref v0, .int v1, .int v2, .int v3] M (some (.int r)) M' := by
  refine hm_enter mm_Way_stepsOver (Nat.le_of_ble_eq_true rfl) (fun X hC => ?_)
  show hm_U X 0 [(0, .ref v0), (1, .int v1), (2, .int v2), (3, .int v3)] [] M _
  unfold f_Way_stepsOver at hF
  refine jv_iload_n hC 1 dX10_stepsOver_0 rfl ?_
  refine jv_iconst hC dX10_stepsOver_1 c32_m1 ?_
  refine jv_icmp_ne hC 9 dX10_stepsOver_2 (by decide) (fun h1 => ?_) (fun h1 => ?_)
  · have hF := hi_neg h1 hF
    refine jv_iload_n hC 1 dX10_stepsOver_9 rfl ?_
    refine jv_iload_n hC 3 dX10_stepsOver_10 rfl ?_
    obtain ⟨r4, M3, c2, hF⟩ := hb_some hF
    refine jv_callSN hC (st := []) [.int v1, .int v3] (k_Ps_stepsBetween c2) mm_Ps_stepsBetween ms_Ps_stepsBetween ml_X10_68 dX10_stepsOver_11 (Nat.le_of_ble_eq_true rfl) rfl rfl (Nat.le_of_ble_eq_true rfl) ?_
    refine jv_nf 14 [.int r4] rfl rfl ?_
    refine jv_sub [0, 2, 3] (ls' := [(0, .ref v0), (2, .int v2), (3, .int v3)]) rfl ?_
    exact jv_pc 14 rfl (s_Way_stepsOver_1 hC hF)
  · have hF := hi_pos h1 hF
    refine jv_iconst hC dX10_stepsOver_5 c32_0 ?_
    refine jv_goto hC 14 dX10_stepsOver_6 (by decide) ?_
    refine jv_sub [0, 2, 3] (ls' := [(0, .ref v0), (2, .int v2), (3, .int v3)]) rfl ?_
    exact jv_pc 14 rfl (s_Way_stepsOver_1 hC hF)
set_option maxRecDepth 100000 in
set_option maxHeartbeats 4000000 in
theorem t_Way_nextFrom_1 {X : hm_X} {n : Nat} {S : hm_S} (hC : hm_C X RX10 cX10_nextFrom 6 (some .int) 3 n S) {k9 : Nat → Int32 → Int32 → Int32 → Int32 → Int32 → hm_M → Option (Int32 × hm_M)} (hk9 : ∀ (v0 : Nat) (v1 : Int32) (v2 : Int32) (v3 : Int32) (v4 : Int32) (v5 : Int32)  (M : hm_M) (r : Int32) (M' : hm_M), k9 v0 v1 v2 v3 v4 v5 M = some (r, M') → hm_U X 9 [(0, .ref v0), (1, .int v1), (2, .int v2), (3, .int v3), (4, .int v4), (5, .int v5)] [] M (hm_Q X (some (.int r)) M')) {v0 : Nat} {v1 : Int32} {v2 : Int32} {v3 : Int32} {v4 : Int32} {v5 : Int32} {M : hm_M} {r : Int32} {M' : hm_M} (hF : b_Way_nextFrom_1 S k9 v0 v1 v2 v3 v4 v5 M = some (r, M')) : hm_U X 9 [(0, .ref v0), (1, .int v1), (2, .int v2), (3, .int v3), (4, .int v4), (5, .int v5)] [] M (hm_Q X (some (.int r)) M') := by
  unfold b_Way_nextFrom_1 at hF
  refine jv_iload hC 5 dX10_nextFrom_9 rfl ?_
  refine jv_bipush hC dX10_nextFrom_11 c8_64 ?_
  refine jv_icmp_ge hC 64 dX10_nextFrom_13 (by decide) (fun h1 => ?_) (fun h1 => ?_)
  · have hF := hi_pos h1 hF
    refine jv_iload_n hC 3 dX10_nextFrom_64 rfl ?_
    obtain ⟨rfl, rfl⟩ := hr_some hF
    exact jv_iret hC dX10_nextFrom_65
  · have hF := hi_neg h1 hF
    refine jv_aload_n hC 0 dX10_nextFrom_16 rfl ?_
    obtain ⟨g2, hF⟩ := hg_some hF
    obtain ⟨g3, hF⟩ := hg_some hF
    refine jv_getR hC fl_X10_9 dX10_nextFrom_17 rfl g2 g3 ?_
    refine jv_iload_n hC 2 dX10_nextFrom_20 rfl ?_
    obtain ⟨g4, hF⟩ := hg_some hF
    obtain ⟨n5, sn5, in5⟩ := hm_ib_ok g4
    refine jv_laload hC dX10_nextFrom_21 sn5 in5 ?_
    refine jv_iload hC 5 dX10_nextFrom_22 rfl ?_
    refine jv_lushr hC dX10_nextFrom_24 ?_
    refine jv_lconst hC (v := 1) dX10_nextFrom_25 (by decide) ?_
    refine jv_pc 26 rfl ?_
    refine jv_land hC dX10_nextFrom_26 ?_
    refine jv_lconst hC (v := 1) dX10_nextFrom_27 (by decide) ?_
    refine jv_lcmp hC dX10_nextFrom_28 ?_
    refine jv_if_ne hC 58 dX10_nextFrom_29 (by decide) (fun h6 => ?_) (fun h6 => ?_)
    · have hF := hi_neg h6 hF
      refine jv_iinc hC 5 [(5, .int (v5 + (1 : Int32))), (0, .ref v0), (1, .int v1), (2, .int v2), (3, .int v3), (4, .int v4)] dX10_nextFrom_58 rfl c32_1 (by decide) rfl ?_
      refine jv_goto hC 9 dX10_nextFrom_61 (by decide) ?_
      refine jv_sub [1, 2, 3, 4, 5, 0] (ls' := [(0, .ref v0), (1, .int v1), (2, .int v2), (3, .int v3), (4, .int v4), (5, .int (v5 + (1 : Int32)))]) rfl ?_
      exact jv_pc 9 rfl (hk9 _ _ _ _ _ _ _ _ _ hF)
    · have hF := hi_pos h6 hF
      refine jv_aload_n hC 0 dX10_nextFrom_32 rfl ?_
      refine jv_iload_n hC 1 dX10_nextFrom_33 rfl ?_
      refine jv_iload_n hC 2 dX10_nextFrom_34 rfl ?_
      refine jv_iload hC 5 dX10_nextFrom_35 rfl ?_
      obtain ⟨r9, M8, c7, hF⟩ := hb_some hF
      refine jv_callV hC (st := []) [.int v1, .int v2, .int v5] (k_Way_stepsOver c7) mm_Way_stepsOver mi_Way_stepsOver ml_X10_57 dX10_nextFrom_37 g2 rfl (Nat.le_of_ble_eq_true rfl) rfl rfl (Nat.le_of_ble_eq_true rfl) ?_
      refine jv_nf 40 [.int r9] rfl rfl ?_
      refine jv_iload hC 4 dX10_nextFrom_40 rfl ?_
      refine jv_icmp_ge hC 58 dX10_nextFrom_42 (by decide) (fun h10 => ?_) (fun h10 => ?_)
      · have hF := hi_pos h10 hF
        refine jv_iinc hC 5 [(5, .int (v5 + (1 : Int32))), (0, .ref v0), (1, .int v1), (2, .int v2), (3, .int v3), (4, .int v4)] dX10_nextFrom_58 rfl c32_1 (by decide) rfl ?_
        refine jv_goto hC 9 dX10_nextFrom_61 (by decide) ?_
        refine jv_sub [1, 2, 3, 4, 5, 0] (ls' := [(0, .ref v0), (1, .int v1), (2, .int v2), (3, .int v3), (4, .int v4), (5, .int (v5 + (1 : Int32)))]) rfl ?_
        exact jv_pc 9 rfl (hk9 _ _ _ _ _ _ _ _ _ hF)
      · have hF := hi_neg h10 hF
        refine jv_iload hC 5 dX10_nextFrom_45 rfl ?_
        refine jv_istore_n hC [(3, .int v5), (0, .ref v0), (1, .int v1), (2, .int v2), (4, .int v4), (5, .int v5)] dX10_nextFrom_47 (by decide) rfl ?_
        refine jv_aload_n hC 1 dX10_nextFrom_48 rfl ?_
        refine jv_iload_n hC 2 dX10_nextFrom_49 rfl ?_
        refine jv_iload_n hC 3 dX10_nextFrom_50 rfl ?_
        refine jv_iload hC 5 dX10_nextFrom_51 rfl ?_
        obtain ⟨r13, M12, c11, hF⟩ := hb_some hF
        refine jv_callV hC (st := []) [.int v1, .int v2, .int v5] (k_Way_stepsOver c11) mm_Way_stepsOver mi_Way_stepsOver ml_X10_57 dX10_nextFrom_53 g2 rfl (Nat.le_of_ble_eq_true rfl) rfl rfl (Nat.le_of_ble_eq_true rfl) ?_
        refine jv_nf 56 [.int r13] rfl rfl ?_
        refine jv_istore hC [(4, .int r13), (3, .int v5), (0, .ref v0), (1, .int v1), (2, .int v2), (5, .int v5)] dX10_nextFrom_56 (by decide) rfl ?_
        refine jv_iinc hC 5 [(5, .int (v5 + (1 : Int32))), (4, .int r13), (3, .int v5), (0, .ref v0), (1, .int v1), (2, .int v2)] dX10_nextFrom_58 rfl c32_1 (by decide) rfl ?_
        refine jv_goto hC 9 dX10_nextFrom_61 (by decide) ?_
        refine jv_sub [3, 4, 5, 2, 1, 0] (ls' := [(0, .ref v0), (1, .int v1), (2, .int v2), (3, .int v5), (4, .int r13), (5, .int (v5 + (1 : Int32)))]) rfl ?_
        exact jv_pc 9 rfl (hk9 _ _ _ _ _ _ _ _ _ hF)
theorem s_Way_nextFrom_1 {X : hm_X} {n : Nat} {S : hm_S} (hC : hm_C X RX10 cX10_nextFrom 6 (some .int) 3 n S) : ∀ (q : Nat) (v0 : Nat) (v1 : Int32) (v2 : Int32) (v3 : Int32) (v4 : Int32) (v5 : Int32) (M : hm_M) (r : Int32) (M' : hm_M), f_Way_nextFrom_1 S  q v0 v1 v2 v3 v4 v5 M = some (r, M') → hm_U X 9 [(0, .ref v0), (1, .int v1), (2, .int v2), (3, .int v3), (4, .int v4), (5, .int v5)] [] M (hm_Q X (some (.int r)) M') := by
  intro q
  induction q with
  | zero => intro v0 v1 v2 v3 v4 v5 M r M' hF; cases hF
  | succ q ih => intro v0 v1 v2 v3 v4 v5 M r M' hF; exact t_Way_nextFrom_1 hC ih hF
set_option maxRecDepth 100000 in
set_option maxHeartbeats 4000000 in
theorem k_Way_nextFrom {n : Nat} {S : hm_S} {v0 : Nat} {v1 : Int32} {v2 : Int32} {M : hm_M} {r : Int32} {M' : hm_M} (hF : f_Way_nextFrom S v0 v1 v2 M = some (r, M')) : hm_KM yX10_nextFrom cX10_nextFrom 6 (some .int) 3 n S [.ref v0, .int v1, .int v2] M (some (.int r)) M' := by
  refine hm_enter mm_Way_nextFrom (Nat.le_of_ble_eq_true rfl) (fun X hC => ?_)
  show hm_U X 0 [(0, .ref v0), (1, .int v1), (2, .int v2)] [] M _
  unfold f_Way_nextFrom at hF
  refine jv_iconst hC dX10_nextFrom_0 c32_0 ?_
  refine jv_istore_n hC [(3, .int (0 : Int32)), (0, .ref v0), (1, .int v1), (2, .int v2)] dX10_nextFrom_1 (by decide) rfl ?_
  refine jv_ldc hC cn_X10_67 dX10_nextFrom_2 ?_
  refine jv_istore hC [(4, .int (1000000 : Int32)), (3, .int (0 : Int32)), (0, .ref v0), (1, .int v1), (2, .int v2)] dX10_nextFrom_4 (by decide) rfl ?_
  refine jv_iconst hC dX10_nextFrom_6 c32_0 ?_
  refine jv_istore hC [(5, .int (0 : Int32)), (4, .int (1000000 : Int32)), (3, .int (0 : Int32)), (0, .ref v0), (1, .int v1), (2, .int v2)] dX10_nextFrom_7 (by decide) rfl ?_
  refine jv_sub [3, 4, 5, 2, 1, 0] (ls' := [(0, .ref v0), (1, .int v1), (2, .int v2), (3, .int (0 : Int32)), (4, .int (1000000 : Int32)), (5, .int (0 : Int32))]) rfl ?_
  exact jv_pc 9 rfl (s_Way_nextFrom_1 hC hN _ _ _ _ _ _ _ _ _ hF)
set_option maxRecDepth 100000 in
set_option maxHeartbeats 4000000 in
theorem s_Way_lookAhead_3 {X : hm_X} {n : Nat} {S : hm_S} (hC : hm_C X RX10 cX10_lookAhead 8 none 4 n S) {k3 : Nat → Int32 → Int32 → Int64 → Int32 → hm_M → Option hm_M} (hk3 : ∀ (v0 : Nat) (v1 : Int32) (v2 : Int32) (v3 : Int64) (v5 : Int32)  (M : hm_M) (M' : hm_M), k3 v0 v1 v2 v3 v5 M = some M' → hm_U X 3 [(0, .ref v0), (1, .int v1), (2, .int v2), (3, .long v3), (5, .int v5)] [] M (hm_Q X none M')) {v0 : Nat} {v1 : Int32} {v2 : Int32} {v3 : Int64} {v5 : Int32} {v6 : Int32} {M : hm_M} {M' : hm_M} (hF : b_Way_lookAhead_3 S k3 v0 v1 v2 v3 v5 v6 M = some M') : hm_U X 76 [(0, .ref v0), (1, .int v1), (2, .int v2), (3, .long v3), (5, .int v5), (6, .int v6)] [] M (hm_Q X none M') := by
  unfold b_Way_lookAhead_3 at hF
  refine jv_aload_n hC 0 dX10_lookAhead_76 rfl ?_
  obtain ⟨g1, hF⟩ := hg_some hF
  obtain ⟨g2, hF⟩ := hg_some hF
  refine jv_getR hC fl_X10_15 dX10_lookAhead_77 rfl g1 g2 ?_
  refine jv_iload_n hC 1 dX10_lookAhead_80 rfl ?_
  refine jv_bipush hC dX10_lookAhead_81 c8_64 ?_
  refine jv_imul hC dX10_lookAhead_83 ?_
  refine jv_iload hC 4 dX10_lookAhead_84 rfl ?_
  refine jv_iadd hC dX10_lookAhead_86 ?_
  refine jv_pc 87 rfl ?_
  refine jv_iload hC 5 dX10_lookAhead_87 rfl ?_
  obtain ⟨g3, hF⟩ := hg_some hF
  obtain ⟨n4, sn4, in4⟩ := hm_ib_ok g3
  refine jv_iastore hC dX10_lookAhead_89 sn4 in4 ?_
  obtain ⟨M5, e6, hF⟩ := hl_some hF
  refine jv_mem e6 ?_
  refine jv_iinc hC 4 [(5, .int (v5 + (1 : Int32))), (0, .ref v0), (1, .int v1), (2, .int v2), (3, .long v3), (6, .int v6)] dX10_lookAhead_90 rfl c32_1 (by decide) rfl ?_
  refine jv_goto hC 3 dX10_lookAhead_93 (by decide) ?_
  refine jv_sub [1, 2, 3, 4, 0] (ls' := [(0, .ref v0), (1, .int v1), (2, .int v2), (3, .long v3), (5, .int (v5 + (1 : Int32)))]) rfl ?_
  exact jv_pc 3 rfl (hk3 _ _ _ _ _ _ _ hF)
set_option maxRecDepth 100000 in
set_option maxHeartbeats 4000000 in
theorem s_Way_lookAhead_2 {X : hm_X} {n : Nat} {S : hm_S} (hC : hm_C X RX10 cX10_lookAhead 8 none 4 n S) {k3 : Nat → Int32 → Int32 → Int64 → Int32 → hm_M → Option hm_M} (hk3 : ∀ (v0 : Nat) (v1 : Int32) (v2 : Int32) (v3 : Int64) (v5 : Int32)  (M : hm_M) (M' : hm_M), k3 v0 v1 v2 v3 v5 M = some M' → hm_U X 3 [(0, .ref v0), (1, .int v1), (2, .int v2), (3, .long v3), (5, .int v5)] [] M (hm_Q X none M')) {v0 : Nat} {v1 : Int32} {v2 : Int32} {v3 : Int64} {v5 : Int32} {s0 : Int32} {M : hm_M} {M' : hm_M} (hF : b_Way_lookAhead_2 S k3 v0 v1 v2 v3 v5 s0 M = some M') : hm_U X 61 [(0, .ref v0), (1, .int v1), (2, .int v2), (3, .long v3), (5, .int v5)] [.int s0] M (hm_Q X none M') := by
  unfold b_Way_lookAhead_2 at hF
  refine jv_istore hC [(7, .int s0), (0, .ref v0), (1, .int v1), (2, .int v2), (3, .long v3), (5, .int v5)] dX10_lookAhead_61 (by decide) rfl ?_
  refine jv_aload_n hC 1 dX10_lookAhead_63 rfl ?_
  refine jv_iload hC 5 dX10_lookAhead_64 rfl ?_
  refine jv_iload_n hC 2 dX10_lookAhead_66 rfl ?_
  refine jv_iconst hC dX10_lookAhead_67 c32_1 ?_
  refine jv_iadd hC dX10_lookAhead_68 ?_
  refine jv_iload hC 0 dX10_lookAhead_69 rfl ?_
  refine jv_pc 71 rfl ?_
  obtain ⟨g1, hF⟩ := hg_some hF
  obtain ⟨r4, M3, c2, hF⟩ := hb_some hF
  refine jv_callV hC (st := []) [.int v5, .int (v1 + (1 : Int32)), .int s0] (k_Way_stepsOver c2) mm_Way_stepsOver mi_Way_stepsOver ml_X10_57 dX10_lookAhead_71 g1 rfl (Nat.le_of_ble_eq_true rfl) rfl rfl (Nat.le_of_ble_eq_true rfl) ?_
  refine jv_nf 74 [.int r4] rfl rfl ?_
  refine jv_istore hC [(6, .int r4), (7, .int s0), (0, .ref v0), (1, .int v1), (2, .int v2), (3, .long v3), (5, .int v5)] dX10_lookAhead_74 (by decide) rfl ?_
  refine jv_sub [0, 2, 3, 4, 5, 6] (ls' := [(6, .int r4), (0, .ref v0), (1, .int v1), (2, .int v2), (3, .long v3), (5, .int v5)]) rfl ?_
  refine jv_sub [1, 2, 3, 4, 5, 0] (ls' := [(0, .ref v0), (1, .int v1), (2, .int v2), (3, .long v3), (5, .int v5), (6, .int r4)]) rfl ?_
  exact jv_pc 76 rfl (s_Way_lookAhead_3 hC hk3 hF)
set_option maxRecDepth 100000 in
set_option maxHeartbeats 4000000 in
theorem t_Way_lookAhead_1 {X : hm_X} {n : Nat} {S : hm_S} (hC : hm_C X RX10 cX10_lookAhead 8 none 4 n S) {k3 : Nat → Int32 → Int32 → Int64 → Int32 → hm_M → Option hm_M} (hk3 : ∀ (v0 : Nat) (v1 : Int32) (v2 : Int32) (v3 : Int64) (v5 : Int32)  (M : hm_M) (M' : hm_M), k3 v0 v1 v2 v3 v5 M = some M' → hm_U X 3 [(0, .ref v0), (1, .int v1), (2, .int v2), (3, .long v3), (5, .int v5)] [] M (hm_Q X none M')) {v0 : Nat} {v1 : Int32} {v2 : Int32} {v3 : Int64} {v5 : Int32} {M : hm_M} {M' : hm_M} (hF : b_Way_lookAhead_1 S k3 v0 v1 v2 v3 v5 M = some M') : hm_U X 3 [(0, .ref v0), (1, .int v1), (2, .int v2), (3, .long v3), (5, .int v5)] [] M (hm_Q X none M') := by
  unfold b_Way_lookAhead_1 at hF
  refine jv_iload hC 4 dX10_lookAhead_3 rfl ?_
  refine jv_bipush hC dX10_lookAhead_5 c8_64 ?_
  refine jv_icmp_ge hC 96 dX10_lookAhead_7 (by decide) (fun h1 => ?_) (fun h1 => ?_)
  · have hF := hi_pos h1 hF
    obtain rfl := hr_somev hF
    exact jv_vret hC dX10_lookAhead_96
  · have hF := hi_neg h1 hF
    refine jv_aload_n hC 0 dX10_lookAhead_10 rfl ?_
    obtain ⟨g2, hF⟩ := hg_some hF
    obtain ⟨g3, hF⟩ := hg_some hF
    refine jv_getR hC fl_X10_9 dX10_lookAhead_11 rfl g2 g3 ?_
    refine jv_iload_n hC 1 dX10_lookAhead_14 rfl ?_
    obtain ⟨g4, hF⟩ := hg_some hF
    obtain ⟨n5, sn5, in5⟩ := hm_ib_ok g4
    refine jv_laload hC dX10_lookAhead_15 sn5 in5 ?_
    refine jv_iload hC 4 dX10_lookAhead_16 rfl ?_
    refine jv_lushr hC dX10_lookAhead_18 ?_
    refine jv_lconst hC (v := 1) dX10_lookAhead_19 (by decide) ?_
    refine jv_pc 20 rfl ?_
    refine jv_land hC dX10_lookAhead_20 ?_
    refine jv_lconst hC (v := 1) dX10_lookAhead_21 (by decide) ?_
    refine jv_lcmp hC dX10_lookAhead_22 ?_
    refine jv_if_ne hC 90 dX10_lookAhead_23 (by decide) (fun h6 => ?_) (fun h6 => ?_)
    · have hF := hi_neg h6 hF
      refine jv_iinc hC 4 [(5, .int (v5 + (1 : Int32))), (0, .ref v0), (1, .int v1), (2, .int v2), (3, .long v3)] dX10_lookAhead_90 rfl c32_1 (by decide) rfl ?_
      refine jv_goto hC 3 dX10_lookAhead_93 (by decide) ?_
      refine jv_sub [1, 2, 3, 4, 0] (ls' := [(0, .ref v0), (1, .int v1), (2, .int v2), (3, .long v3), (5, .int (v5 + (1 : Int32)))]) rfl ?_
      exact jv_pc 3 rfl (hk3 _ _ _ _ _ _ _ hF)
    · have hF := hi_pos h6 hF
      refine jv_iconst hC dX10_lookAhead_26 c32_0 ?_
      refine jv_istore hC [(6, .int (0 : Int32)), (0, .ref v0), (1, .int v1), (2, .int v2), (3, .long v3), (5, .int v5)] dX10_lookAhead_27 (by decide) rfl ?_
      refine jv_iload_n hC 2 dX10_lookAhead_29 rfl ?_
      refine jv_iload_n hC 3 dX10_lookAhead_30 rfl ?_
      refine jv_icmp_ge hC 76 dX10_lookAhead_31 (by decide) (fun h7 => ?_) (fun h7 => ?_)
      · have hF := hi_pos h7 hF
        refine jv_sub [1, 2, 3, 4, 5, 0] (ls' := [(0, .ref v0), (1, .int v1), (2, .int v2), (3, .long v3), (5, .int v5), (6, .int (0 : Int32))]) rfl ?_
        exact jv_pc 76 rfl (s_Way_lookAhead_3 hC hk3 hF)
      · have hF := hi_neg h7 hF
        refine jv_aload_n hC 1 dX10_lookAhead_34 rfl ?_
        refine jv_getR hC fl_X10_9 dX10_lookAhead_35 rfl g2 g3 ?_
        refine jv_iload_n hC 2 dX10_lookAhead_38 rfl ?_
        refine jv_iconst hC dX10_lookAhead_39 c32_1 ?_
        refine jv_iadd hC dX10_lookAhead_40 ?_
        obtain ⟨g8, hF⟩ := hg_some hF
        obtain ⟨n9, sn9, in9⟩ := hm_ib_ok g8
        refine jv_laload hC dX10_lookAhead_41 sn9 in9 ?_
        refine jv_lload_n hC 4 dX10_lookAhead_42 rfl ?_
        refine jv_pc 43 rfl ?_
        refine jv_lcmp hC dX10_lookAhead_43 ?_
        refine jv_if_ne hC 52 dX10_lookAhead_44 (by decide) (fun h10 => ?_) (fun h10 => ?_)
        · have hF := hi_neg h10 hF
          refine jv_aload_n hC 1 dX10_lookAhead_52 rfl ?_
          refine jv_iload hC 5 dX10_lookAhead_53 rfl ?_
          refine jv_iload_n hC 2 dX10_lookAhead_55 rfl ?_
          refine jv_iconst hC dX10_lookAhead_56 c32_1 ?_
          refine jv_iadd hC dX10_lookAhead_57 ?_
          obtain ⟨r13, M12, c11, hF⟩ := hb_some hF
          refine jv_callV hC (st := []) [.int v5, .int (v1 + (1 : Int32))] (k_Way_nextFrom c11) mm_Way_nextFrom mi_Way_nextFrom ml_X10_54 dX10_lookAhead_58 g2 rfl (Nat.le_of_ble_eq_true rfl) rfl rfl (Nat.le_of_ble_eq_true rfl) ?_
          refine jv_nf 61 [.int r13] rfl rfl ?_
          refine jv_sub [1, 2, 3, 4, 5] (ls' := [(0, .ref v0), (1, .int v1), (2, .int v2), (3, .long v3), (5, .int v5)]) rfl ?_
          exact jv_pc 61 rfl (s_Way_lookAhead_2 hC hk3 hF)
        · have hF := hi_pos h10 hF
          refine jv_iload hC 5 dX10_lookAhead_47 rfl ?_
          refine jv_goto hC 61 dX10_lookAhead_49 (by decide) ?_
          refine jv_sub [1, 2, 3, 4, 5] (ls' := [(0, .ref v0), (1, .int v1), (2, .int v2), (3, .long v3), (5, .int v5)]) rfl ?_
          exact jv_pc 61 rfl (s_Way_lookAhead_2 hC hk3 hF)
theorem s_Way_lookAhead_1 {X : hm_X} {n : Nat} {S : hm_S} (hC : hm_C X RX10 cX10_lookAhead 8 none 4 n S) : ∀ (q : Nat) (v0 : Nat) (v1 : Int32) (v2 : Int32) (v3 : Int64) (v5 : Int32) (M : hm_M) (M' : hm_M), f_Way_lookAhead_1 S  q v0 v1 v2 v3 v5 M = some M' → hm_U X 3 [(0, .ref v0), (1, .int v1), (2, .int v2), (3, .long v3), (5, .int v5)] [] M (hm_Q X none M') := by
  intro q
  induction q with
  | zero => intro v0 v1 v2 v3 v5 M M' hF; cases hF
  | succ q ih => intro v0 v1 v2 v3 v5 M M' hF; exact t_Way_lookAhead_1 hC ih hF
set_option maxRecDepth 100000 in
set_option maxHeartbeats 4000000 in
theorem k_Way_lookAhead {n : Nat} {S : hm_S} {v0 : Nat} {v1 : Int32} {v2 : Int32} {v3 : Int64} {M : hm_M} {M' : hm_M} (hF : f_Way_lookAhead S v0 v1 v2 v3 M = some M') : hm_KM yX10_lookAhead cX10_lookAhead 8 none 4 n S [.ref v0, .int v1, .int v2, .long v3] M none M' := by
  refine hm_enter mm_Way_lookAhead (Nat.le_of_ble_eq_true rfl) (fun X hC => ?_)
  show hm_U X 0 [(0, .ref v0), (1, .int v1), (2, .int v2), (3, .long v3)] [] M _
  unfold f_Way_lookAhead at hF
  refine jv_iconst hC dX10_lookAhead_0 c32_0 ?_
  refine jv_istore hC [(5, .int (0 : Int32)), (0, .ref v0), (1, .int v1), (2, .int v2), (3, .long v3)] dX10_lookAhead_1 (by decide) rfl ?_
  refine jv_sub [1, 2, 3, 4, 0] (ls' := [(0, .ref v0), (1, .int v1), (2, .int v2), (3, .long v3), (5, .int (0 : Int32))]) rfl ?_
  exact jv_pc 3 rfl (s_Way_lookAhead_1 hC hN _ _ _ _ _ _ _ hF)
set_option maxRecDepth 100000 in
set_option maxHeartbeats 4000000 in
theorem s_Way_find_5 {X : hm_X} {n : Nat} {S : hm_S} (hC : hm_C X RX10 cX10_find 11 none 5 n S) {s0 : Int32} {s1 : Nat} {M : hm_M} {M' : hm_M} (hF : b_Way_find_5 S s0 s1 M = some M') : hm_U X 158 [] [.int s0, .ref s1] M (hm_Q X none M') := by
  unfold b_Way_find_5 at hF
  obtain ⟨g1, hF⟩ := hg_some hF
  refine jv_putI hC fl_X10_22 dX10_find_158 rfl rfl rfl g1 ?_
  obtain ⟨M2, e3, hF⟩ := hl_some hF
  refine jv_mem e3 ?_
  obtain rfl := hr_somev hF
  exact jv_vret hC dX10_find_161
set_option maxRecDepth 100000 in
set_option maxHeartbeats 4000000 in
theorem t_Way_find_4 {X : hm_X} {n : Nat} {S : hm_S} (hC : hm_C X RX10 cX10_find 11 none 5 n S) {k105 : Nat → Int32 → Int32 → Int32 → hm_M → Option hm_M} (hk105 : ∀ (v0 : Nat) (v5 : Int32) (v8 : Int32) (v9 : Int32)  (M : hm_M) (M' : hm_M), k105 v0 v5 v8 v9 M = some M' → hm_U X 105 [(0, .ref v0), (5, .int v5), (8, .int v8), (9, .int v9)] [] M (hm_Q X none M')) {v0 : Nat} {v5 : Int32} {v8 : Int32} {v9 : Int32} {M : hm_M} {M' : hm_M} (hF : b_Way_find_4 S k105 v0 v5 v8 v9 M = some M') : hm_U X 105 [(0, .ref v0), (5, .int v5), (8, .int v8), (9, .int v9)] [] M (hm_Q X none M') := by
  unfold b_Way_find_4 at hF
  refine jv_iload hC 3 dX10_find_105 rfl ?_
  refine jv_iload hC 1 dX10_find_107 rfl ?_
  refine jv_icmp_ge hC 137 dX10_find_109 (by decide) (fun h1 => ?_) (fun h1 => ?_)
  · have hF := hi_pos h1 hF
    refine jv_aload_n hC 0 dX10_find_137 rfl ?_
    refine jv_iload hC 1 dX10_find_138 rfl ?_
    refine jv_if_le hC 157 dX10_find_140 (by decide) (fun h2 => ?_) (fun h2 => ?_)
    · have hF := hi_pos h2 hF
      refine jv_iconst hC dX10_find_157 c32_0 ?_
      refine jv_sub [] (ls' := []) rfl ?_
      exact jv_pc 158 rfl (s_Way_find_5 hC hF)
    · have hF := hi_neg h2 hF
      refine jv_aload_n hC 0 dX10_find_143 rfl ?_
      obtain ⟨g3, hF⟩ := hg_some hF
      obtain ⟨g4, hF⟩ := hg_some hF
      refine jv_getR hC fl_X10_15 dX10_find_144 rfl g3 g4 ?_
      refine jv_aload_n hC 0 dX10_find_147 rfl ?_
      obtain ⟨g5, hF⟩ := hg_some hF
      refine jv_getR hC fl_X10_19 dX10_find_148 rfl g3 g5 ?_
      refine jv_iconst hC dX10_find_151 c32_0 ?_
      obtain ⟨g6, hF⟩ := hg_some hF
      obtain ⟨n7, sn7, in7⟩ := hm_ib_ok g6
      refine jv_iaload hC dX10_find_152 sn7 in7 ?_
      obtain ⟨g8, hF⟩ := hg_some hF
      obtain ⟨n9, sn9, in9⟩ := hm_ib_ok g8
      refine jv_iaload hC dX10_find_153 sn9 in9 ?_
      refine jv_goto hC 158 dX10_find_154 (by decide) ?_
      refine jv_sub [] (ls' := []) rfl ?_
      exact jv_pc 158 rfl (s_Way_find_5 hC hF)
  · have hF := hi_neg h1 hF
    refine jv_aload_n hC 0 dX10_find_112 rfl ?_
    refine jv_iload hC 2 dX10_find_113 rfl ?_
    refine jv_iload hC 3 dX10_find_115 rfl ?_
    obtain ⟨g10, hF⟩ := hg_some hF
    obtain ⟨r13, M12, c11, hF⟩ := hb_some hF
    refine jv_callV hC (st := []) [.int v8, .int v9] (k_Way_nextFrom c11) mm_Way_nextFrom mi_Way_nextFrom ml_X10_54 dX10_find_117 g10 rfl (Nat.le_of_ble_eq_true rfl) rfl rfl (Nat.le_of_ble_eq_true rfl) ?_
    refine jv_nf 120 [.int r13] rfl rfl ?_
    refine jv_istore hC [(8, .int r13), (0, .ref v0), (5, .int v5), (9, .int v9)] dX10_find_120 (by decide) rfl ?_
    refine jv_aload_n hC 1 dX10_find_122 rfl ?_
    obtain ⟨g14, hF⟩ := hg_some hF
    refine jv_getR hC fl_X10_19 dX10_find_123 rfl g10 g14 ?_
    refine jv_iload hC 3 dX10_find_126 rfl ?_
    refine jv_iload hC 0 dX10_find_128 rfl ?_
    obtain ⟨g15, hF⟩ := hg_some hF
    obtain ⟨n16, sn16, in16⟩ := hm_ib_ok g15
    refine jv_iastore hC dX10_find_130 sn16 in16 ?_
    obtain ⟨M17, e18, hF⟩ := hl_some hF
    refine jv_mem e18 ?_
    refine jv_iinc hC 3 [(9, .int (v9 + (1 : Int32))), (8, .int r13), (0, .ref v0), (5, .int v5)] dX10_find_131 rfl c32_1 (by decide) rfl ?_
    refine jv_goto hC 105 dX10_find_134 (by decide) ?_
    refine jv_sub [2, 3, 1, 0] (ls' := [(0, .ref v0), (5, .int v5), (8, .int r13), (9, .int (v9 + (1 : Int32)))]) rfl ?_
    exact jv_pc 105 rfl (hk105 _ _ _ _ _ _ hF)
theorem s_Way_find_4 {X : hm_X} {n : Nat} {S : hm_S} (hC : hm_C X RX10 cX10_find 11 none 5 n S) : ∀ (q : Nat) (v0 : Nat) (v5 : Int32) (v8 : Int32) (v9 : Int32) (M : hm_M) (M' : hm_M), f_Way_find_4 S  q v0 v5 v8 v9 M = some M' → hm_U X 105 [(0, .ref v0), (5, .int v5), (8, .int v8), (9, .int v9)] [] M (hm_Q X none M') := by
  intro q
  induction q with
  | zero => intro v0 v5 v8 v9 M M' hF; cases hF
  | succ q ih => intro v0 v5 v8 v9 M M' hF; exact t_Way_find_4 hC ih hF
set_option maxRecDepth 100000 in
set_option maxHeartbeats 4000000 in
theorem t_Way_find_3 {X : hm_X} {n : Nat} {S : hm_S} (hC : hm_C X RX10 cX10_find 11 none 5 n S) {k76 : Nat → Int32 → Int64 → Int32 → hm_M → Option hm_M} (hk76 : ∀ (v0 : Nat) (v5 : Int32) (v6 : Int64) (v8 : Int32)  (M : hm_M) (M' : hm_M), k76 v0 v5 v6 v8 M = some M' → hm_U X 76 [(0, .ref v0), (5, .int v5), (6, .long v6), (8, .int v8)] [] M (hm_Q X none M')) {v0 : Nat} {v5 : Int32} {v6 : Int64} {v8 : Int32} {M : hm_M} {M' : hm_M} (hF : b_Way_find_3 S k76 v0 v5 v6 v8 M = some M') : hm_U X 76 [(0, .ref v0), (5, .int v5), (6, .long v6), (8, .int v8)] [] M (hm_Q X none M') := by
  unfold b_Way_find_3 at hF
  refine jv_iload hC 3 dX10_find_76 rfl ?_
  refine jv_if_lt hC 99 dX10_find_78 (by decide) (fun h1 => ?_) (fun h1 => ?_)
  · have hF := hi_pos h1 hF
    refine jv_iconst hC dX10_find_99 c32_m1 ?_
    refine jv_istore hC [(8, .int (-1 : Int32)), (0, .ref v0), (5, .int v5), (6, .long v6)] dX10_find_100 (by decide) rfl ?_
    refine jv_iconst hC dX10_find_102 c32_0 ?_
    refine jv_istore hC [(9, .int (0 : Int32)), (8, .int (-1 : Int32)), (0, .ref v0), (5, .int v5), (6, .long v6)] dX10_find_103 (by decide) rfl ?_
    refine jv_sub [2, 3, 1, 0] (ls' := [(0, .ref v0), (5, .int v5), (8, .int (-1 : Int32)), (9, .int (0 : Int32))]) rfl ?_
    exact jv_pc 105 rfl (s_Way_find_4 hC hN _ _ _ _ _ _ hF)
  · have hF := hi_neg h1 hF
    refine jv_aload_n hC 0 dX10_find_81 rfl ?_
    refine jv_iload hC 3 dX10_find_82 rfl ?_
    refine jv_iload hC 1 dX10_find_84 rfl ?_
    refine jv_iconst hC dX10_find_86 c32_1 ?_
    refine jv_isub hC dX10_find_87 ?_
    refine jv_lload hC 2 dX10_find_88 rfl ?_
    obtain ⟨g2, hF⟩ := hg_some hF
    obtain ⟨M4, c3, hF⟩ := hv_some hF
    refine jv_callV hC (st := []) [.int v8, .int (v5 - (1 : Int32)), .long v6] (k_Way_lookAhead c3) mm_Way_lookAhead mi_Way_lookAhead ml_X10_50 dX10_find_90 g2 rfl (Nat.le_of_ble_eq_true rfl) rfl rfl (Nat.le_of_ble_eq_true rfl) ?_
    refine jv_nf 93 [] rfl rfl ?_
    refine jv_iinc hC 3 [(8, .int (v8 + (-1 : Int32))), (0, .ref v0), (5, .int v5), (6, .long v6)] dX10_find_93 rfl c32_m1 (by decide) rfl ?_
    refine jv_goto hC 76 dX10_find_96 (by decide) ?_
    refine jv_sub [1, 2, 3, 0] (ls' := [(0, .ref v0), (5, .int v5), (6, .long v6), (8, .int (v8 + (-1 : Int32)))]) rfl ?_
    exact jv_pc 76 rfl (hk76 _ _ _ _ _ _ hF)
theorem s_Way_find_3 {X : hm_X} {n : Nat} {S : hm_S} (hC : hm_C X RX10 cX10_find 11 none 5 n S) : ∀ (q : Nat) (v0 : Nat) (v5 : Int32) (v6 : Int64) (v8 : Int32) (M : hm_M) (M' : hm_M), f_Way_find_3 S  q v0 v5 v6 v8 M = some M' → hm_U X 76 [(0, .ref v0), (5, .int v5), (6, .long v6), (8, .int v8)] [] M (hm_Q X none M') := by
  intro q
  induction q with
  | zero => intro v0 v5 v6 v8 M M' hF; cases hF
  | succ q ih => intro v0 v5 v6 v8 M M' hF; exact t_Way_find_3 hC ih hF
set_option maxRecDepth 100000 in
set_option maxHeartbeats 4000000 in
theorem s_Way_find_2 {X : hm_X} {n : Nat} {S : hm_S} (hC : hm_C X RX10 cX10_find 11 none 5 n S) {k21 : Nat → Nat → Int32 → Int32 → Int32 → Int64 → Int32 → hm_M → Option hm_M} (hk21 : ∀ (v0 : Nat) (v1 : Nat) (v2 : Int32) (v3 : Int32) (v5 : Int32) (v6 : Int64) (v8 : Int32)  (M : hm_M) (M' : hm_M), k21 v0 v1 v2 v3 v5 v6 v8 M = some M' → hm_U X 21 [(0, .ref v0), (1, .ref v1), (2, .int v2), (3, .int v3), (5, .int v5), (6, .long v6), (8, .int v8)] [] M (hm_Q X none M')) {v0 : Nat} {v1 : Nat} {v2 : Int32} {v3 : Int32} {v5 : Int32} {v6 : Int64} {v8 : Int32} {s0 : Int64} {s1 : Int32} {s2 : Nat} {M : hm_M} {M' : hm_M} (hF : b_Way_find_2 S k21 v0 v1 v2 v3 v5 v6 v8 s0 s1 s2 M = some M') : hm_U X 63 [(0, .ref v0), (1, .ref v1), (2, .int v2), (3, .int v3), (5, .int v5), (6, .long v6), (8, .int v8)] [.long s0, .int s1, .ref s2] M (hm_Q X none M') := by
  unfold b_Way_find_2 at hF
  obtain ⟨g1, hF⟩ := hg_some hF
  obtain ⟨n2, sn2, in2⟩ := hm_ib_ok g1
  refine jv_lastore hC dX10_find_63 sn2 in2 ?_
  obtain ⟨M3, e4, hF⟩ := hl_some hF
  refine jv_mem e4 ?_
  refine jv_iinc hC 6 [(8, .int (v8 + (1 : Int32))), (0, .ref v0), (1, .ref v1), (2, .int v2), (3, .int v3), (5, .int v5), (6, .long v6)] dX10_find_64 rfl c32_1 (by decide) rfl ?_
  refine jv_goto hC 21 dX10_find_67 (by decide) ?_
  refine jv_sub [1, 2, 3, 4, 5, 6, 0] (ls' := [(0, .ref v0), (1, .ref v1), (2, .int v2), (3, .int v3), (5, .int v5), (6, .long v6), (8, .int (v8 + (1 : Int32)))]) rfl ?_
  exact jv_pc 21 rfl (hk21 _ _ _ _ _ _ _ _ _ hF)
set_option maxRecDepth 100000 in
set_option maxHeartbeats 4000000 in
theorem t_Way_find_1 {X : hm_X} {n : Nat} {S : hm_S} (hC : hm_C X RX10 cX10_find 11 none 5 n S) {k21 : Nat → Nat → Int32 → Int32 → Int32 → Int64 → Int32 → hm_M → Option hm_M} (hk21 : ∀ (v0 : Nat) (v1 : Nat) (v2 : Int32) (v3 : Int32) (v5 : Int32) (v6 : Int64) (v8 : Int32)  (M : hm_M) (M' : hm_M), k21 v0 v1 v2 v3 v5 v6 v8 M = some M' → hm_U X 21 [(0, .ref v0), (1, .ref v1), (2, .int v2), (3, .int v3), (5, .int v5), (6, .long v6), (8, .int v8)] [] M (hm_Q X none M')) {v0 : Nat} {v1 : Nat} {v2 : Int32} {v3 : Int32} {v5 : Int32} {v6 : Int64} {v8 : Int32} {M : hm_M} {M' : hm_M} (hF : b_Way_find_1 S k21 v0 v1 v2 v3 v5 v6 v8 M = some M') : hm_U X 21 [(0, .ref v0), (1, .ref v1), (2, .int v2), (3, .int v3), (5, .int v5), (6, .long v6), (8, .int v8)] [] M (hm_Q X none M') := by
  unfold b_Way_find_1 at hF
  refine jv_iload hC 6 dX10_find_21 rfl ?_
  refine jv_iload hC 4 dX10_find_23 rfl ?_
  refine jv_icmp_ge hC 70 dX10_find_25 (by decide) (fun h1 => ?_) (fun h1 => ?_)
  · have hF := hi_pos h1 hF
    refine jv_iload hC 4 dX10_find_70 rfl ?_
    refine jv_iconst hC dX10_find_72 c32_1 ?_
    refine jv_isub hC dX10_find_73 ?_
    obtain ⟨x2, e3, hF⟩ := hl_some hF
    refine jv_topI e3 ?_
    refine jv_istore hC [(8, .int x2), (0, .ref v0), (1, .ref v1), (2, .int v2), (3, .int v3), (5, .int v5), (6, .long v6)] dX10_find_74 (by decide) rfl ?_
    refine jv_sub [0, 1, 5, 6] (ls' := [(8, .int x2), (0, .ref v0), (5, .int v5), (6, .long v6)]) rfl ?_
    refine jv_sub [1, 2, 3, 0] (ls' := [(0, .ref v0), (5, .int v5), (6, .long v6), (8, .int x2)]) rfl ?_
    exact jv_pc 76 rfl (s_Way_find_3 hC hN _ _ _ _ _ _ hF)
  · have hF := hi_neg h1 hF
    refine jv_aload_n hC 1 dX10_find_28 rfl ?_
    refine jv_iload_n hC 3 dX10_find_29 rfl ?_
    refine jv_iload hC 6 dX10_find_30 rfl ?_
    refine jv_iadd hC dX10_find_32 ?_
    obtain ⟨g4, hF⟩ := hg_some hF
    obtain ⟨M6, c5, hF⟩ := hv_some hF
    refine jv_callV hC (st := []) [.int (v3 + v8)] (k_Light_turnTo c5) mm_Light_turnTo mi_Light_turnTo ml_X10_42 dX10_find_33 g4 rfl (Nat.le_of_ble_eq_true rfl) rfl rfl (Nat.le_of_ble_eq_true rfl) ?_
    refine jv_nf 36 [] rfl rfl ?_
    refine jv_aload_n hC 1 dX10_find_36 rfl ?_
    refine jv_iload_n hC 2 dX10_find_37 rfl ?_
    obtain ⟨r9, M8, c7, hF⟩ := hb_some hF
    refine jv_callV hC (st := []) [.int v2] (k_Light_placesOf c7) mm_Light_placesOf mi_Light_placesOf ml_X10_46 dX10_find_38 g4 rfl (Nat.le_of_ble_eq_true rfl) rfl rfl (Nat.le_of_ble_eq_true rfl) ?_
    refine jv_nf 41 [.long r9] rfl rfl ?_
    refine jv_lstore hC [(9, .long r9), (0, .ref v0), (1, .ref v1), (2, .int v2), (3, .int v3), (5, .int v5), (6, .long v6), (8, .int v8)] dX10_find_41 (by decide) rfl ?_
    refine jv_aload_n hC 1 dX10_find_43 rfl ?_
    obtain ⟨g10, hF⟩ := hg_some hF
    obtain ⟨g11, hF⟩ := hg_some hF
    refine jv_getR hC fl_X10_9 dX10_find_44 rfl g10 g11 ?_
    refine jv_iload hC 7 dX10_find_47 rfl ?_
    refine jv_lload hC 0 dX10_find_49 rfl ?_
    refine jv_lconst hC (v := 0) dX10_find_51 (by decide) ?_
    refine jv_lcmp hC dX10_find_52 ?_
    refine jv_pc 53 rfl ?_
    refine jv_if_eq hC 61 dX10_find_53 (by decide) (fun h12 => ?_) (fun h12 => ?_)
    · have hF := hi_pos h12 hF
      refine jv_lload hC 6 dX10_find_61 rfl ?_
      refine jv_sub [1, 2, 3, 4, 5, 6, 7] (ls' := [(0, .ref v0), (1, .ref v1), (2, .int v2), (3, .int v3), (5, .int v5), (6, .long v6), (8, .int v8)]) rfl ?_
      exact jv_pc 63 rfl (s_Way_find_2 hC hk21 hF)
    · have hF := hi_neg h12 hF
      refine jv_lload hC 0 dX10_find_56 rfl ?_
      refine jv_goto hC 63 dX10_find_58 (by decide) ?_
      refine jv_sub [1, 2, 3, 4, 5, 6, 7] (ls' := [(0, .ref v0), (1, .ref v1), (2, .int v2), (3, .int v3), (5, .int v5), (6, .long v6), (8, .int v8)]) rfl ?_
      exact jv_pc 63 rfl (s_Way_find_2 hC hk21 hF)
theorem s_Way_find_1 {X : hm_X} {n : Nat} {S : hm_S} (hC : hm_C X RX10 cX10_find 11 none 5 n S) : ∀ (q : Nat) (v0 : Nat) (v1 : Nat) (v2 : Int32) (v3 : Int32) (v5 : Int32) (v6 : Int64) (v8 : Int32) (M : hm_M) (M' : hm_M), f_Way_find_1 S  q v0 v1 v2 v3 v5 v6 v8 M = some M' → hm_U X 21 [(0, .ref v0), (1, .ref v1), (2, .int v2), (3, .int v3), (5, .int v5), (6, .long v6), (8, .int v8)] [] M (hm_Q X none M') := by
  intro q
  induction q with
  | zero => intro v0 v1 v2 v3 v5 v6 v8 M M' hF; cases hF
  | succ q ih => intro v0 v1 v2 v3 v5 v6 v8 M M' hF; exact t_Way_find_1 hC ih hF
set_option maxRecDepth 100000 in
set_option maxHeartbeats 4000000 in
theorem k_Way_find {n : Nat} {S : hm_S} {v0 : Nat} {v1 : Nat} {v2 : Int32} {v3 : Int32} {v4 : Int32} {M : hm_M} {M' : hm_M} (hF : f_Way_find S v0 v1 v2 v3 v4 M = some M') : hm_KM yX10_find cX10_find 11 none 5 n S [.ref v0, .ref v1, .int v2, .int v3, .int v4] M none M' := by
  refine hm_enter mm_Way_find (Nat.le_of_ble_eq_true rfl) (fun X hC => ?_)
  show hm_U X 0 [(0, .ref v0), (1, .ref v1), (2, .int v2), (3, .int v3), (4, .int v4)] [] M _
  unfold f_Way_find at hF
  refine jv_iload hC 4 dX10_find_0 rfl ?_
  refine jv_bipush hC dX10_find_2 c8_24 ?_
  refine jv_mmin hC ml_X10_26 dX10_find_4 (by omega) (Nat.le_of_ble_eq_true rfl) ?_
  obtain ⟨x1, e2, hF⟩ := hl_some hF
  refine jv_topI e2 ?_
  refine jv_istore hC [(5, .int x1), (0, .ref v0), (1, .ref v1), (2, .int v2), (3, .int v3), (4, .int v4)] dX10_find_7 (by decide) rfl ?_
  refine jv_aload_n hC 2 dX10_find_9 rfl ?_
  obtain ⟨g3, hF⟩ := hg_some hF
  obtain ⟨g4, hF⟩ := hg_some hF
  refine jv_getR hC fl_X10_32 dX10_find_10 rfl g3 g4 ?_
  obtain ⟨r7, M6, c5, hF⟩ := hb_some hF
  refine jv_callS hC (st := []) [.ref (M.2.2 v1 0)] (k_Way_floorOf c5) mm_Way_floorOf ms_Way_floorOf ml_X10_38 dX10_find_13 (Nat.le_of_ble_eq_true rfl) rfl rfl (Nat.le_of_ble_eq_true rfl) ?_
  refine jv_nf 16 [.long r7] rfl rfl ?_
  refine jv_lstore hC [(6, .long r7), (5, .int x1), (0, .ref v0), (1, .ref v1), (2, .int v2), (3, .int v3), (4, .int v4)] dX10_find_16 (by decide) rfl ?_
  refine jv_sub [0, 1, 2, 3, 4, 5] (ls' := [(6, .long r7), (5, .int x1), (0, .ref v0), (1, .ref v1), (2, .int v2), (3, .int v3)]) rfl ?_
  refine jv_iconst hC dX10_find_18 c32_0 ?_
  refine jv_istore hC [(8, .int (0 : Int32)), (6, .long r7), (5, .int x1), (0, .ref v0), (1, .ref v1), (2, .int v2), (3, .int v3)] dX10_find_19 (by decide) rfl ?_
  refine jv_sub [3, 4, 5, 6, 2, 1, 0] (ls' := [(0, .ref v0), (1, .ref v1), (2, .int v2), (3, .int v3), (5, .int x1), (6, .long r7), (8, .int (0 : Int32))]) rfl ?_
  exact jv_pc 21 rfl (s_Way_find_1 hC hN _ _ _ _ _ _ _ _ _ hF)
set_option maxRecDepth 100000 in
set_option maxHeartbeats 4000000 in
theorem k_Ps_isPane {n : Nat} {S : hm_S} {v0 : Nat} {v1 : Int32} {M : hm_M} {r : Int32} {M' : hm_M} (hF : f_Ps_isPane S v0 v1 M = some (r, M')) : hm_KM yX11_isPane cX11_isPane 2 (some .boolean) 1 n S [.ref v0, .int v1] M (some (.int r)) M' := by
  refine hm_enter mm_Ps_isPane (Nat.le_of_ble_eq_true rfl) (fun X hC => ?_)
  show hm_U X 0 [(0, .ref v0), (1, .int v1)] [] M _
  unfold f_Ps_isPane at hF
  refine jv_iload_n hC 1 dX11_isPane_0 rfl ?_
  refine jv_if_lt hC 22 dX11_isPane_1 (by decide) (fun h1 => ?_) (fun h1 => ?_)
  · have hF := hi_pos h1 hF
    refine jv_iconst hC dX11_isPane_22 c32_0 ?_
    obtain ⟨rfl, rfl⟩ := hr_some hF
    exact jv_zret hC (by decide) dX11_isPane_23
  · have hF := hi_neg h1 hF
    refine jv_iload_n hC 1 dX11_isPane_4 rfl ?_
    refine jv_aload_n hC 0 dX11_isPane_5 rfl ?_
    obtain ⟨g2, hF⟩ := hg_some hF
    obtain ⟨g3, hF⟩ := hg_some hF
    refine jv_getR hC fl_X11_19 dX11_isPane_6 rfl g2 g3 ?_
    obtain ⟨g4, hF⟩ := hg_some hF
    obtain ⟨g5, hF⟩ := hg_some hF
    refine jv_getR hC fl_X11_98 dX11_isPane_9 rfl g4 g5 ?_
    obtain ⟨g6, hF⟩ := hg_some hF
    refine jv_getI hC fl_X11_294 dX11_isPane_12 rfl g6 ?_
    refine jv_icmp_ge hC 22 dX11_isPane_15 (by decide) (fun h7 => ?_) (fun h7 => ?_)
    · have hF := hi_pos h7 hF
      refine jv_iconst hC dX11_isPane_22 c32_0 ?_
      obtain ⟨rfl, rfl⟩ := hr_some hF
      exact jv_zret hC (by decide) dX11_isPane_23
    · have hF := hi_neg h7 hF
      refine jv_iconst hC dX11_isPane_18 c32_1 ?_
      refine jv_goto hC 23 dX11_isPane_19 (by decide) ?_
      obtain ⟨rfl, rfl⟩ := hr_some hF
      exact jv_zret hC (by decide) dX11_isPane_23
set_option maxRecDepth 100000 in
set_option maxHeartbeats 4000000 in
theorem k_Hold_lit {n : Nat} {S : hm_S} {v0 : Nat} {M : hm_M} {r : Int32} {M' : hm_M} (hF : f_Hold_lit S v0 M = some (r, M')) : hm_KM yX2_lit cX2_lit 1 (some .int) 1 n S [.ref v0] M (some (.int r)) M' := by
  refine hm_enter mm_Hold_lit (Nat.le_of_ble_eq_true rfl) (fun X hC => ?_)
  show hm_U X 0 [(0, .ref v0)] [] M _
  unfold f_Hold_lit at hF
  refine jv_iconst hC dX2_lit_0 c32_1 ?_
  refine jv_aload_n hC 0 dX2_lit_1 rfl ?_
  obtain ⟨g1, hF⟩ := hg_some hF
  refine jv_getI hC fl_X2_28 dX2_lit_2 rfl g1 ?_
  refine jv_ishl hC dX2_lit_5 ?_
  refine jv_iconst hC dX2_lit_6 c32_1 ?_
  refine jv_isub hC dX2_lit_7 ?_
  refine jv_aload_n hC 0 dX2_lit_8 rfl ?_
  refine jv_pc 9 rfl ?_
  refine jv_getI hC fl_X2_15 dX2_lit_9 rfl g1 ?_
  refine jv_iconst hC dX2_lit_12 c32_m1 ?_
  refine jv_ixor hC dX2_lit_13 ?_
  refine jv_iand hC dX2_lit_14 ?_
  obtain ⟨rfl, rfl⟩ := hr_some hF
  exact jv_iret hC dX2_lit_15
set_option maxRecDepth 100000 in
set_option maxHeartbeats 4000000 in
theorem t_Light_panesOn_1 {X : hm_X} {n : Nat} {S : hm_S} (hC : hm_C X RX4 cX4_panesOn 5 (some .int) 1 n S) {k5 : Nat → Int32 → Int32 → Int32 → Int32 → hm_M → Option (Int32 × hm_M)} (hk5 : ∀ (v0 : Nat) (v1 : Int32) (v2 : Int32) (v3 : Int32) (v4 : Int32)  (M : hm_M) (r : Int32) (M' : hm_M), k5 v0 v1 v2 v3 v4 M = some (r, M') → hm_U X 5 [(0, .ref v0), (1, .int v1), (2, .int v2), (3, .int v3), (4, .int v4)] [] M (hm_Q X (some (.int r)) M')) {v0 : Nat} {v1 : Int32} {v2 : Int32} {v3 : Int32} {v4 : Int32} {M : hm_M} {r : Int32} {M' : hm_M} (hF : b_Light_panesOn_1 S k5 v0 v1 v2 v3 v4 M = some (r, M')) : hm_U X 5 [(0, .ref v0), (1, .int v1), (2, .int v2), (3, .int v3), (4, .int v4)] [] M (hm_Q X (some (.int r)) M') := by
  unfold b_Light_panesOn_1 at hF
  refine jv_iload hC 4 dX4_panesOn_5 rfl ?_
  refine jv_bipush hC dX4_panesOn_7 c8_12 ?_
  refine jv_icmp_ge hC 46 dX4_panesOn_9 (by decide) (fun h1 => ?_) (fun h1 => ?_)
  · have hF := hi_pos h1 hF
    refine jv_iload_n hC 3 dX4_panesOn_46 rfl ?_
    obtain ⟨rfl, rfl⟩ := hr_some hF
    exact jv_iret hC dX4_panesOn_47
  · have hF := hi_neg h1 hF
    refine jv_aload_n hC 0 dX4_panesOn_12 rfl ?_
    obtain ⟨g2, hF⟩ := hg_some hF
    obtain ⟨g3, hF⟩ := hg_some hF
    refine jv_getR hC fl_X4_18 dX4_panesOn_13 rfl g2 g3 ?_
    refine jv_iload hC 4 dX4_panesOn_16 rfl ?_
    obtain ⟨g4, hF⟩ := hg_some hF
    obtain ⟨n5, sn5, in5⟩ := hm_ib_ok g4
    refine jv_iaload hC dX4_panesOn_18 sn5 in5 ?_
    refine jv_iload_n hC 1 dX4_panesOn_19 rfl ?_
    refine jv_icmp_ne hC 40 dX4_panesOn_20 (by decide) (fun h6 => ?_) (fun h6 => ?_)
    · have hF := hi_neg h6 hF
      refine jv_iinc hC 4 [(4, .int (v4 + (1 : Int32))), (0, .ref v0), (1, .int v1), (2, .int v2), (3, .int v3)] dX4_panesOn_40 rfl c32_1 (by decide) rfl ?_
      refine jv_goto hC 5 dX4_panesOn_43 (by decide) ?_
      refine jv_sub [1, 2, 3, 4, 0] (ls' := [(0, .ref v0), (1, .int v1), (2, .int v2), (3, .int v3), (4, .int (v4 + (1 : Int32)))]) rfl ?_
      exact jv_pc 5 rfl (hk5 _ _ _ _ _ _ _ _ hF)
    · have hF := hi_pos h6 hF
      refine jv_iload_n hC 2 dX4_panesOn_23 rfl ?_
      refine jv_iload hC 4 dX4_panesOn_24 rfl ?_
      refine jv_ishr hC dX4_panesOn_26 ?_
      refine jv_iconst hC dX4_panesOn_27 c32_1 ?_
      refine jv_iand hC dX4_panesOn_28 ?_
      refine jv_iconst hC dX4_panesOn_29 c32_1 ?_
      refine jv_icmp_ne hC 40 dX4_panesOn_30 (by decide) (fun h7 => ?_) (fun h7 => ?_)
      · have hF := hi_neg h7 hF
        refine jv_iinc hC 4 [(4, .int (v4 + (1 : Int32))), (0, .ref v0), (1, .int v1), (2, .int v2), (3, .int v3)] dX4_panesOn_40 rfl c32_1 (by decide) rfl ?_
        refine jv_goto hC 5 dX4_panesOn_43 (by decide) ?_
        refine jv_sub [1, 2, 3, 4, 0] (ls' := [(0, .ref v0), (1, .int v1), (2, .int v2), (3, .int v3), (4, .int (v4 + (1 : Int32)))]) rfl ?_
        exact jv_pc 5 rfl (hk5 _ _ _ _ _ _ _ _ hF)
      · have hF := hi_pos h7 hF
        refine jv_iload_n hC 3 dX4_panesOn_33 rfl ?_
        refine jv_iconst hC dX4_panesOn_34 c32_1 ?_
        refine jv_iload hC 4 dX4_panesOn_35 rfl ?_
        refine jv_ishl hC dX4_panesOn_37 ?_
        refine jv_ior hC dX4_panesOn_38 ?_
        obtain ⟨x8, e9, hF⟩ := hl_some hF
        refine jv_topI e9 ?_
        refine jv_istore_n hC [(3, .int x8), (0, .ref v0), (1, .int v1), (2, .int v2), (4, .int v4)] dX4_panesOn_39 (by decide) rfl ?_
        refine jv_iinc hC 4 [(4, .int (v4 + (1 : Int32))), (3, .int x8), (0, .ref v0), (1, .int v1), (2, .int v2)] dX4_panesOn_40 rfl c32_1 (by decide) rfl ?_
        refine jv_goto hC 5 dX4_panesOn_43 (by decide) ?_
        refine jv_sub [2, 3, 4, 1, 0] (ls' := [(0, .ref v0), (1, .int v1), (2, .int v2), (3, .int x8), (4, .int (v4 + (1 : Int32)))]) rfl ?_
        exact jv_pc 5 rfl (hk5 _ _ _ _ _ _ _ _ hF)
theorem s_Light_panesOn_1 {X : hm_X} {n : Nat} {S : hm_S} (hC : hm_C X RX4 cX4_panesOn 5 (some .int) 1 n S) : ∀ (q : Nat) (v0 : Nat) (v1 : Int32) (v2 : Int32) (v3 : Int32) (v4 : Int32) (M : hm_M) (r : Int32) (M' : hm_M), f_Light_panesOn_1 S  q v0 v1 v2 v3 v4 M = some (r, M') → hm_U X 5 [(0, .ref v0), (1, .int v1), (2, .int v2), (3, .int v3), (4, .int v4)] [] M (hm_Q X (some (.int r)) M') := by
  intro q
  induction q with
  | zero => intro v0 v1 v2 v3 v4 M r M' hF; cases hF
  | succ q ih => intro v0 v1 v2 v3 v4 M r M' hF; exact t_Light_panesOn_1 hC ih hF
set_option maxRecDepth 100000 in
set_option maxHeartbeats 4000000 in
theorem k_Light_panesOn {n : Nat} {S : hm_S} {v0 : Nat} {v1 : Int32} {v2 : Int32} {M : hm_M} {r : Int32} {M' : hm_M} (hF : f_Light_panesOn S v0 v1 v2 M = some (r, M')) : hm_KM yX4_panesOn cX4_panesOn 5 (some .int) 1 n S [.ref v0, .int v1, .int v2] M (some (.int r)) M' := by
  refine hm_enter mm_Light_panesOn (Nat.le_of_ble_eq_true rfl) (fun X hC => ?_)
  show hm_U X 0 [(0, .ref v0), (1, .int v1), (2, .int v2)] [] M _
  unfold f_Light_panesOn at hF
  refine jv_iconst hC dX4_panesOn_0 c32_0 ?_
  refine jv_istore_n hC [(3, .int (0 : Int32)), (0, .ref v0), (1, .int v1), (2, .int v2)] dX4_panesOn_1 (by decide) rfl ?_
  refine jv_iconst hC dX4_panesOn_2 c32_0 ?_
  refine jv_istore hC [(4, .int (0 : Int32)), (3, .int (0 : Int32)), (0, .ref v0), (1, .int v1), (2, .int v2)] dX4_panesOn_3 (by decide) rfl ?_
  refine jv_sub [2, 3, 4, 1, 0] (ls' := [(0, .ref v0), (1, .int v1), (2, .int v2), (3, .int (0 : Int32)), (4, .int (0 : Int32))]) rfl ?_
  exact jv_pc 5 rfl (s_Light_panesOn_1 hC hN _ _ _ _ _ _ _ _ hF)
set_option maxRecDepth 100000 in
set_option maxHeartbeats 4000000 in
theorem k_Laws_lookAtSpot {n : Nat} {S : hm_S} {v0 : Nat} {v1 : Int32} {v2 : Int32} {M : hm_M} {M' : hm_M} (hF : f_Laws_lookAtSpot S v0 v1 v2 M = some M') : hm_KM yX3_lookAtSpot cX3_lookAtSpot 3 none 1 n S [.ref v0, .int v1, .int v2] M none M' := by
  refine hm_enter mm_Laws_lookAtSpot (Nat.le_of_ble_eq_true rfl) (fun X hC => ?_)
  show hm_U X 0 [(0, .ref v0), (1, .int v1), (2, .int v2)] [] M _
  unfold f_Laws_lookAtSpot at hF
  refine jv_aload_n hC 0 dX3_lookAtSpot_0 rfl ?_
  obtain ⟨g1, hF⟩ := hg_some hF
  obtain ⟨g2, hF⟩ := hg_some hF
  refine jv_getR hC fl_X3_28 dX3_lookAtSpot_1 rfl g1 g2 ?_
  refine jv_iconst hC dX3_lookAtSpot_4 c32_4 ?_
  refine jv_iload_n hC 1 dX3_lookAtSpot_5 rfl ?_
  refine jv_bipush hC dX3_lookAtSpot_6 c8_8 ?_
  refine jv_irem hC dX3_lookAtSpot_8 (by decide) ?_
  obtain ⟨g3, hF⟩ := hg_some hF
  obtain ⟨n4, sn4, in4⟩ := hm_ib_ok g3
  refine jv_iastore hC dX3_lookAtSpot_9 sn4 in4 ?_
  obtain ⟨M5, e6, hF⟩ := hl_some hF
  refine jv_mem e6 ?_
  refine jv_pc 10 rfl ?_
  refine jv_aload_n hC 0 dX3_lookAtSpot_10 rfl ?_
  obtain ⟨g7, hF⟩ := hg_some hF
  refine jv_getR hC fl_X3_28 dX3_lookAtSpot_11 rfl g1 g7 ?_
  refine jv_iconst hC dX3_lookAtSpot_14 c32_5 ?_
  refine jv_iload_n hC 1 dX3_lookAtSpot_15 rfl ?_
  refine jv_bipush hC dX3_lookAtSpot_16 c8_8 ?_
  refine jv_idiv hC dX3_lookAtSpot_18 (by decide) ?_
  obtain ⟨g8, hF⟩ := hg_some hF
  obtain ⟨n9, sn9, in9⟩ := hm_ib_ok g8
  refine jv_iastore hC dX3_lookAtSpot_19 sn9 in9 ?_
  obtain ⟨M10, e11, hF⟩ := hl_some hF
  refine jv_mem e11 ?_
  refine jv_aload_n hC 0 dX3_lookAtSpot_20 rfl ?_
  refine jv_pc 21 rfl ?_
  obtain ⟨g12, hF⟩ := hg_some hF
  refine jv_getR hC fl_X3_28 dX3_lookAtSpot_21 rfl g1 g12 ?_
  refine jv_bipush hC dX3_lookAtSpot_24 c8_6 ?_
  refine jv_iload_n hC 2 dX3_lookAtSpot_26 rfl ?_
  obtain ⟨g13, hF⟩ := hg_some hF
  obtain ⟨n14, sn14, in14⟩ := hm_ib_ok g13
  refine jv_iastore hC dX3_lookAtSpot_27 sn14 in14 ?_
  obtain ⟨M15, e16, hF⟩ := hl_some hF
  refine jv_mem e16 ?_
  obtain rfl := hr_somev hF
  exact jv_vret hC dX3_lookAtSpot_28
set_option maxRecDepth 100000 in
set_option maxHeartbeats 4000000 in
theorem k_Rents_partOf {n : Nat} {S : hm_S} {v0 : Nat} {v1 : Int32} {v2 : Int32} {M : hm_M} {r : Int32} {M' : hm_M} (hF : f_Rents_partOf S v0 v1 v2 M = some (r, M')) : hm_KM yX6_partOf cX6_partOf 4 (some .int) 3 n S [.ref v0, .int v1, .int v2] M (some (.int r)) M' := by
  refine hm_enter mm_Rents_partOf (Nat.le_of_ble_eq_true rfl) (fun X hC => ?_)
  show hm_U X 0 [(0, .ref v0), (1, .int v1), (2, .int v2)] [] M _
  unfold f_Rents_partOf at hF
  refine jv_aload_n hC 0 dX6_partOf_0 rfl ?_
  refine jv_iload_n hC 1 dX6_partOf_1 rfl ?_
  refine jv_iload_n hC 2 dX6_partOf_2 rfl ?_
  obtain ⟨g1, hF⟩ := hg_some hF
  obtain ⟨M3, c2, hF⟩ := hv_some hF
  refine jv_callV hC (st := []) [.int v1, .int v2] (k_Laws_lookAtSpot c2) mm_Laws_lookAtSpot mi_Laws_lookAtSpot ml_X6_105 dX6_partOf_3 g1 rfl (Nat.le_of_ble_eq_true rfl) rfl rfl (Nat.le_of_ble_eq_true rfl) ?_
  refine jv_nf 6 [] rfl rfl ?_
  refine jv_aload_n hC 0 dX6_partOf_6 rfl ?_
  refine jv_sipush hC dX6_partOf_7 c16_138 ?_
  obtain ⟨r6, M5, c4, hF⟩ := hb_some hF
  refine jv_callV hC (st := []) [.int (138 : Int32)] (k_Laws_valueOf c4) mm_Laws_valueOf mi_Laws_valueOf ml_X6_113 dX6_partOf_10 g1 rfl (Nat.le_of_ble_eq_true rfl) rfl rfl (Nat.le_of_ble_eq_true rfl) ?_
  refine jv_nf 13 [.int r6] rfl rfl ?_
  refine jv_iconst hC dX6_partOf_13 c32_0 ?_
  refine jv_mmax hC ml_X6_116 dX6_partOf_14 (by omega) (Nat.le_of_ble_eq_true rfl) ?_
  refine jv_sipush hC dX6_partOf_17 c16_999 ?_
  refine jv_mmin hC ml_X6_55 dX6_partOf_20 (by omega) (Nat.le_of_ble_eq_true rfl) ?_
  obtain ⟨x7, e8, hF⟩ := hl_some hF
  refine jv_topI e8 ?_
  refine jv_istore_n hC [(3, .int x7), (0, .ref v0), (1, .int v1), (2, .int v2)] dX6_partOf_23 (by decide) rfl ?_
  refine jv_iload_n hC 3 dX6_partOf_24 rfl ?_
  refine jv_if_le hC 34 dX6_partOf_25 (by decide) (fun h9 => ?_) (fun h9 => ?_)
  · have hF := hi_pos h9 hF
    refine jv_iconst hC dX6_partOf_34 c32_0 ?_
    obtain ⟨rfl, rfl⟩ := hr_some hF
    exact jv_iret hC dX6_partOf_35
  · have hF := hi_neg h9 hF
    refine jv_iload_n hC 0 dX6_partOf_28 rfl ?_
    refine jv_iload_n hC 3 dX6_partOf_29 rfl ?_
    obtain ⟨g10, hF⟩ := hg_some hF
    refine jv_idiv hC dX6_partOf_30 g10 ?_
    refine jv_goto hC 35 dX6_partOf_31 (by decide) ?_
    obtain ⟨rfl, rfl⟩ := hr_some hF
    exact jv_iret hC dX6_partOf_35
