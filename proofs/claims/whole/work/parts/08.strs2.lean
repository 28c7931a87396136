/-! texts: indexOf, and the three rows of Tape -/
theorem hm_i32 {x : Int32} (h0 : 0 ≤ x) : x = Int32.ofNat x.toNatClampNeg ∧ x.toInt = (x.toNatClampNeg : Int) := by
  have h2 : (0 : Int) ≤ x.toInt := by simpa using Int32.le_iff_toInt_le.mp h0
  have h4 : x.toInt < 2 ^ 31 := x.toInt_lt
  have e : x.toInt = (x.toNatClampNeg : Int) := by
    show x.toInt = ((x.toInt.toNat : Nat) : Int)
    omega
  refine ⟨?_, e⟩
  apply Int32.toInt_inj.mp
  rw [Int32.toInt_ofNat_of_lt (by show x.toInt.toNat < _; omega)]
  exact e
theorem hm_byte {c : Int32} (h0 : 0 ≤ c) (h1 : c ≤ 255) {b : Int32} (hb0 : 0 ≤ b) (hb1 : b < 128) : b = c.toInt8.toInt32 ↔ b = c := by
  obtain ⟨e, e2⟩ := hm_i32 h0
  have h3 : c.toInt ≤ 255 := by simpa using Int32.le_iff_toInt_le.mp h1
  have h5 : c.toNatClampNeg < 256 := by omega
  have h6 : ∀ k, k < 256 → ((Int32.ofNat k).toInt8.toInt32 = Int32.ofNat k ∨ ((Int32.ofNat k).toInt8.toInt32 < 0 ∧ 128 ≤ Int32.ofNat k)) := by decide +kernel
  have h7 := h6 _ h5
  rw [← e] at h7
  rcases h7 with h | ⟨h8, h9⟩
  · rw [h]
  · constructor
    · intro z
      rw [z] at hb0
      exact absurd h8 (Int32.not_lt.mpr hb0)
    · intro z
      rw [z] at hb1
      exact absurd hb1 (Int32.not_lt.mpr h9)
section Texts2
variable {n : Nat} {S : hm_S} {M : hm_M}
theorem k_canEnc {c : Int32} : hm_KM yJ1_canEncode_9a6ad cJ1_canEncode_9a6ad 1 (some .boolean) 0 n S [.int c] M (some (.int (if 0 ≤ c ∧ c ≤ 255 then 1 else 0))) M := by
  refine hm_enter mm_J1_canEncode_9a6ad (Nat.le_of_ble_eq_true rfl) (fun X hC => ?_)
  show hm_U X 0 [(0, .int c)] [] M _
  refine jv_iload_n hC 0 dJ1_canEncode_9a6ad_0 rfl ?_
  have out : ¬ (0 ≤ c ∧ c ≤ 255) → hm_U X 15 [(0, .int c)] [] M (hm_Q X (some (.int (if 0 ≤ c ∧ c ≤ 255 then 1 else 0))) M) := by
    intro h
    rw [if_neg h]
    refine jv_iconst hC (v := 0) dJ1_canEncode_9a6ad_15 (by decide) ?_
    exact jv_xret hC (by decide) dJ1_canEncode_9a6ad_16
  refine jv_if_lt hC 15 dJ1_canEncode_9a6ad_1 (by decide) (fun h => out (fun z => absurd h (Int32.not_lt.mpr z.1))) (fun h => ?_)
  refine jv_iload_n hC 0 dJ1_canEncode_9a6ad_4 rfl ?_
  refine jv_sipush hC (v := 255) dJ1_canEncode_9a6ad_5 (by decide) ?_
  refine jv_icmp_gt hC 15 dJ1_canEncode_9a6ad_8 (by decide) (fun h => out (fun z => absurd h (Int32.not_lt.mpr z.2))) (fun h2 => ?_)
  rw [if_pos ⟨Int32.not_lt.mp h, Int32.not_lt.mp h2⟩]
  refine jv_iconst hC (v := 1) dJ1_canEncode_9a6ad_11 (by decide) ?_
  refine jv_goto hC 16 dJ1_canEncode_9a6ad_12 (by decide) ?_
  exact jv_xret hC (by decide) dJ1_canEncode_9a6ad_16
theorem k_ixLoop {X : hm_X} (hC : hm_C X RJ1 cJ1_indexOfChar_4cfef 6 (some .int) 0 n S) {i : Nat} (hi : i < 2) {c : Int32} (h0 : 0 ≤ c) (h1 : c ≤ 255) : ∀ (l : List Int32) (k : Nat), (hm_byts.getD i []).drop k = l → k ≤ hm_lens.getD i 0 →
    hm_U X 7 [(0, .ref (2000000 + i)), (3, .int (nI (hm_lens.getD i 0))), (4, .int c.toInt8.toInt32), (5, .int (nI k))] [] M (hm_Q X (some (.int (hm_ixF c l k))) M) := by
  obtain ⟨hl1, hl2⟩ := hm_byts_ok hi
  have hl3 := hm_lens_lt hi
  have ni : ∀ k, k < 200 → (nI k).toInt = (k : Int) := fun k hk => Int32.toInt_ofNat_of_lt (by omega)
  intro l
  induction l with
  | nil =>
    intro k e hk
    have q : (hm_byts.getD i []).length ≤ k := List.drop_eq_nil_iff.mp e
    refine jv_iload hC 3 dJ1_indexOfChar_4cfef_7 rfl ?_
    refine jv_iload_n hC 1 dJ1_indexOfChar_4cfef_9 rfl ?_
    refine jv_icmp_ge hC 31 dJ1_indexOfChar_4cfef_10 (by decide) (fun _ => ?_) (fun h => absurd ?_ h)
    · refine jv_iconst hC (v := -1) dJ1_indexOfChar_4cfef_31 (by decide) ?_
      exact jv_iret hC dJ1_indexOfChar_4cfef_32
    · rw [Int32.le_iff_toInt_le, ni _ (by omega), ni _ (by omega)]
      omega
  | cons b l ih =>
    intro k e hk
    have q : k < (hm_byts.getD i []).length := by
      apply Nat.lt_of_not_le
      intro z
      rw [List.drop_eq_nil_iff.mpr z] at e
      cases e
    have hb : (hm_byts.getD i []).getD k 0 = b := by
      rw [List.getD_eq_getElem?_getD, List.getElem?_eq_getElem q]
      rw [List.drop_eq_getElem_cons q] at e
      exact (List.cons.inj e).1
    have hd : (hm_byts.getD i []).drop (k + 1) = l := by
      rw [List.drop_eq_getElem_cons q] at e
      exact (List.cons.inj e).2
    have hbm : b ∈ hm_byts.getD i [] := hb ▸ hm_getD_mem q
    obtain ⟨-, b0, b1⟩ := hl2 b hbm
    have hin : vp_in (nI k) (hm_lens.getD i 0) := vp_in_nI (by omega) (by omega)
    have hcl : (nI k).toNatClampNeg = k := by
      show (nI k).toInt.toNat = k
      rw [ni k (by omega)]
      omega
    refine jv_iload hC 3 dJ1_indexOfChar_4cfef_7 rfl ?_
    refine jv_iload_n hC 1 dJ1_indexOfChar_4cfef_9 rfl ?_
    refine jv_icmp_ge hC 31 dJ1_indexOfChar_4cfef_10 (by decide) (fun h => absurd h ?_) (fun _ => ?_)
    · rw [Int32.le_iff_toInt_le, ni _ (by omega), ni _ (by omega)]
      omega
    refine jv_aload_n hC 0 dJ1_indexOfChar_4cfef_13 rfl ?_
    refine jv_iload hC 3 dJ1_indexOfChar_4cfef_14 rfl ?_
    refine jv_tald hC hi hin dJ1_indexOfChar_4cfef_16 ?_
    refine jv_topI (y := b) (by rw [hcl, hb]) ?_
    refine jv_iload hC 2 dJ1_indexOfChar_4cfef_17 rfl ?_
    rw [hm_ixF]
    refine jv_icmp_ne hC 25 dJ1_indexOfChar_4cfef_19 (by decide) (fun h => ?_) (fun h => ?_)
    · rw [if_neg (fun z => h ((hm_byte h0 h1 b0 b1).mpr z))]
      refine jv_iinc hC 3 [(5, .int (nI (k + 1))), (0, .ref (2000000 + i)), (3, .int (nI (hm_lens.getD i 0))), (4, .int c.toInt8.toInt32)] dJ1_indexOfChar_4cfef_25 rfl (v := 1) (by decide) (by decide) (by rw [nI_succ]; rfl) ?_
      refine jv_goto hC 7 dJ1_indexOfChar_4cfef_28 (by decide) ?_
      refine jv_sub [1, 2, 3, 0] (ls' := [(0, .ref (2000000 + i)), (3, .int (nI (hm_lens.getD i 0))), (4, .int c.toInt8.toInt32), (5, .int (nI (k + 1)))]) rfl ?_
      exact ih (k + 1) hd (by omega)
    · rw [if_pos ((hm_byte h0 h1 b0 b1).mp h)]
      refine jv_iload hC 3 dJ1_indexOfChar_4cfef_22 rfl ?_
      exact jv_iret hC dJ1_indexOfChar_4cfef_24
theorem k_ixChar {i : Nat} (hi : i < 2) {c : Int32} (h0 : 0 ≤ c) (h1 : c ≤ 255) : hm_KM yJ1_indexOfChar_4cfef cJ1_indexOfChar_4cfef 6 (some .int) 0 n S [.ref (2000000 + i), .int c, .int 0, .int (nI (hm_lens.getD i 0))] M (some (.int (hm_ix i c))) M := by
  refine hm_enter mm_J1_indexOfChar_4cfef (Nat.le_of_ble_eq_true rfl) (fun X hC => ?_)
  show hm_U X 0 [(0, .ref (2000000 + i)), (1, .int c), (2, .int 0), (3, .int (nI (hm_lens.getD i 0)))] [] M _
  refine jv_iload_n hC 1 dJ1_indexOfChar_4cfef_0 rfl ?_
  refine jv_i2b hC dJ1_indexOfChar_4cfef_1 ?_
  refine jv_istore hC [(4, .int c.toInt8.toInt32), (0, .ref (2000000 + i)), (1, .int c), (2, .int 0), (3, .int (nI (hm_lens.getD i 0)))] dJ1_indexOfChar_4cfef_2 (by decide) rfl ?_
  refine jv_iload_n hC 3 dJ1_indexOfChar_4cfef_4 rfl ?_
  refine jv_istore hC [(5, .int 0), (4, .int c.toInt8.toInt32), (0, .ref (2000000 + i)), (1, .int c), (2, .int 0), (3, .int (nI (hm_lens.getD i 0)))] dJ1_indexOfChar_4cfef_5 (by decide) rfl ?_
  refine jv_sub [2, 5, 1, 0] (ls' := [(0, .ref (2000000 + i)), (3, .int (nI (hm_lens.getD i 0))), (4, .int c.toInt8.toInt32), (5, .int (nI 0))]) rfl ?_
  exact jv_pc 7 rfl (k_ixLoop hC hi h0 h1 _ 0 rfl (Nat.zero_le _))
theorem hm_ix_out {c : Int32} (h : ¬ (0 ≤ c ∧ c ≤ 255)) : ∀ (l : List Int32) (k : Nat), (∀ b ∈ l, 0 ≤ b ∧ b < 128) → hm_ixF c l k = -1 := by
  intro l
  induction l with
  | nil => intro k _; rfl
  | cons b l ih =>
    intro k hb
    obtain ⟨b0, b1⟩ := hb b List.mem_cons_self
    rw [hm_ixF, if_neg]
    · exact ih (k + 1) (fun b h => hb b (List.mem_cons_of_mem _ h))
    · intro z
      subst z
      exact h ⟨b0, Int32.le_of_lt (Int32.lt_trans b1 (by decide))⟩
theorem hm_max_00 : hm_max (0 : Int32) 0 = 0 := by decide
theorem hm_min_len {i : Nat} (hi : i < 2) : hm_min (nI (hm_lens.getD i 0)) (nI (hm_lens.getD i 0)) = nI (hm_lens.getD i 0) := by unfold hm_min; split <;> rfl
theorem k_latIndexOf {i : Nat} (hi : i < 2) {c : Int32} : hm_KM yJ1_indexOf_4cfef cJ1_indexOf_4cfef 4 (some .int) 1 n S [.ref (2000000 + i), .int c, .int 0, .int (nI (hm_lens.getD i 0))] M (some (.int (hm_ix i c))) M := by
  obtain ⟨hl1, hl2⟩ := hm_byts_ok hi
  refine hm_enter mm_J1_indexOf_4cfef (Nat.le_of_ble_eq_true rfl) (fun X hC => ?_)
  show hm_U X 0 [(0, .ref (2000000 + i)), (1, .int c), (2, .int 0), (3, .int (nI (hm_lens.getD i 0)))] [] M _
  refine jv_iload_n hC 1 dJ1_indexOf_4cfef_0 rfl ?_
  refine jv_callS hC (st := []) [.int c] (k_canEnc (c := c)) mm_J1_canEncode_9a6ad ms_J1_canEncode_9a6ad ml_J1_88 dJ1_indexOf_4cfef_1 (Nat.le_of_ble_eq_true rfl) rfl rfl (Nat.le_of_ble_eq_true rfl) ?_
  refine jv_nf 4 [.int (if 0 ≤ c ∧ c ≤ 255 then 1 else 0)] rfl rfl ?_
  by_cases hc : 0 ≤ c ∧ c ≤ 255
  · rw [if_pos hc]
    refine jv_if_ne hC 9 dJ1_indexOf_4cfef_4 (by decide) (fun _ => ?_) (fun h => absurd h (by decide))
    refine jv_iload_n hC 2 dJ1_indexOf_4cfef_9 rfl ?_
    refine jv_iconst hC (v := 0) dJ1_indexOf_4cfef_10 (by decide) ?_
    refine jv_mmax hC ml_J1_92 dJ1_indexOf_4cfef_11 (by omega) (Nat.le_of_ble_eq_true rfl) ?_
    rw [hm_max_00]
    refine jv_istore_n hC [(2, .int 0), (0, .ref (2000000 + i)), (1, .int c), (3, .int (nI (hm_lens.getD i 0)))] dJ1_indexOf_4cfef_14 (by decide) rfl ?_
    refine jv_iload_n hC 3 dJ1_indexOf_4cfef_15 rfl ?_
    refine jv_aload_n hC 1 dJ1_indexOf_4cfef_16 rfl ?_
    refine jv_tlen hC hi dJ1_indexOf_4cfef_17 ?_
    refine jv_mmin hC ml_J1_38 dJ1_indexOf_4cfef_18 (by omega) (Nat.le_of_ble_eq_true rfl) ?_
    rw [hm_min_len hi]
    refine jv_istore_n hC [(3, .int (nI (hm_lens.getD i 0))), (2, .int 0), (0, .ref (2000000 + i)), (1, .int c)] dJ1_indexOf_4cfef_21 (by decide) rfl ?_
    refine jv_iload_n hC 1 dJ1_indexOf_4cfef_22 rfl ?_
    refine jv_iload_n hC 0 dJ1_indexOf_4cfef_23 rfl ?_
    refine jv_icmp_lt hC 29 dJ1_indexOf_4cfef_24 (by decide) (fun _ => ?_) (fun h => absurd ?_ h)
    · refine jv_aload_n hC 2 dJ1_indexOf_4cfef_29 rfl ?_
      refine jv_iload_n hC 3 dJ1_indexOf_4cfef_30 rfl ?_
      refine jv_iload_n hC 1 dJ1_indexOf_4cfef_31 rfl ?_
      refine jv_iload_n hC 0 dJ1_indexOf_4cfef_32 rfl ?_
      refine jv_callS hC (st := []) [.ref (2000000 + i), .int c, .int 0, .int (nI (hm_lens.getD i 0))] (k_ixChar hi hc.1 hc.2) mm_J1_indexOfChar_4cfef ms_J1_indexOfChar_4cfef ml_J1_95 dJ1_indexOf_4cfef_33 (Nat.le_of_ble_eq_true rfl) rfl rfl (Nat.le_of_ble_eq_true rfl) ?_
      refine jv_nf 36 [.int (hm_ix i c)] rfl rfl ?_
      exact jv_iret hC dJ1_indexOf_4cfef_36
    · rcases (show i = 0 ∨ i = 1 by omega) with rfl | rfl <;> decide
  · rw [if_neg hc]
    refine jv_if_ne hC 9 dJ1_indexOf_4cfef_4 (by decide) (fun h => absurd rfl h) (fun _ => ?_)
    refine jv_iconst hC (v := -1) dJ1_indexOf_4cfef_7 (by decide) ?_
    have e : hm_ix i c = -1 := hm_ix_out hc _ _ (fun b h => (hl2 b h).2)
    rw [e]
    exact jv_iret hC dJ1_indexOf_4cfef_8
theorem k_indexOf2 {i : Nat} (hi : i < 2) {c : Int32} : hm_KM yJ0_indexOf_7cf53 cJ0_indexOf_7cf53 3 (some .int) 2 n S [.ref (1000000 + i), .int c, .int 0] M (some (.int (hm_ix i c))) M := by
  refine hm_enter mm_J0_indexOf_7cf53 (Nat.le_of_ble_eq_true rfl) (fun X hC => ?_)
  show hm_U X 0 [(0, .ref (1000000 + i)), (1, .int c), (2, .int 0)] [] M _
  refine jv_aload_n hC 0 dJ0_indexOf_7cf53_0 rfl ?_
  refine jv_callT hC (st := []) [] hi (k_isLatin1 hi) mm_J0_isLatin1_aae02 mi_J0_isLatin1_aae02 ml_J0_492 dJ0_indexOf_7cf53_1 rfl (Nat.le_of_ble_eq_true rfl) rfl rfl (Nat.le_of_ble_eq_true rfl) ?_
  refine jv_nf 4 [.int 1] rfl rfl ?_
  refine jv_if_eq hC 23 dJ0_indexOf_7cf53_4 (by decide) (fun h => absurd h (by decide)) (fun _ => ?_)
  refine jv_aload_n hC 0 dJ0_indexOf_7cf53_7 rfl ?_
  refine jv_getSV hC hi dJ0_indexOf_7cf53_8 ?_
  refine jv_iload_n hC 1 dJ0_indexOf_7cf53_11 rfl ?_
  refine jv_iload_n hC 2 dJ0_indexOf_7cf53_12 rfl ?_
  refine jv_aload_n hC 0 dJ0_indexOf_7cf53_13 rfl ?_
  refine jv_callT hC (st := [.int 0, .int c, .ref (2000000 + i)]) [] hi (k_length hi) mm_J0_length_8abf5 mi_J0_length_8abf5 ml_J0_505 dJ0_indexOf_7cf53_14 rfl (Nat.le_of_ble_eq_true rfl) rfl rfl (Nat.le_of_ble_eq_true rfl) ?_
  refine jv_nf 17 [.int (nI (hm_lens.getD i 0)), .int 0, .int c, .ref (2000000 + i)] rfl rfl ?_
  refine jv_callS hC (st := []) [.ref (2000000 + i), .int c, .int 0, .int (nI (hm_lens.getD i 0))] (k_latIndexOf hi) mm_J1_indexOf_4cfef ms_J1_indexOf_4cfef ml_J0_637 dJ0_indexOf_7cf53_17 (Nat.le_of_ble_eq_true rfl) rfl rfl (Nat.le_of_ble_eq_true rfl) ?_
  refine jv_nf 20 [.int (hm_ix i c)] rfl rfl ?_
  refine jv_goto hC 36 dJ0_indexOf_7cf53_20 (by decide) ?_
  exact jv_iret hC dJ0_indexOf_7cf53_36
theorem k_indexOf1 {i : Nat} (hi : i < 2) {c : Int32} : hm_KM yJ0_indexOf_0f7a4 cJ0_indexOf_0f7a4 2 (some .int) 3 n S [.ref (1000000 + i), .int c] M (some (.int (hm_ix i c))) M := by
  refine hm_enter mm_J0_indexOf_0f7a4 (Nat.le_of_ble_eq_true rfl) (fun X hC => ?_)
  show hm_U X 0 [(0, .ref (1000000 + i)), (1, .int c)] [] M _
  refine jv_aload_n hC 0 dJ0_indexOf_0f7a4_0 rfl ?_
  refine jv_iload_n hC 1 dJ0_indexOf_0f7a4_1 rfl ?_
  refine jv_iconst hC (v := 0) dJ0_indexOf_0f7a4_2 (by decide) ?_
  refine jv_callT hC (st := []) [.int c, .int 0] hi (k_indexOf2 hi) mm_J0_indexOf_7cf53 mi_J0_indexOf_7cf53 ml_J0_633 dJ0_indexOf_0f7a4_3 rfl (Nat.le_of_ble_eq_true rfl) rfl rfl (Nat.le_of_ble_eq_true rfl) ?_
  refine jv_nf 6 [.int (hm_ix i c)] rfl rfl ?_
  exact jv_iret hC dJ0_indexOf_0f7a4_6
end Texts2
section Rows7
variable {X : hm_X} {cc : ByteArray} {nL : Nat} {ret : Option FieldType} {d n : Nat} {S : hm_S} {pc : Nat} {ls : List (Nat × Value)} {st : List Value} {M : hm_M} {Q : State → Prop}
theorem jv_strlen0 (hC : hm_C X RX7 cc nL ret d n S) (hd : decode cc pc = .ok (.invokevirtual 73, 3)) (hk : 6 ≤ d) (hw : (st.map fun v => v.category).sum ≤ 8) (kk : hm_U X (pc + 3) ls (.int 106 :: st) M Q) : hm_U X pc ls (.ref 1000000 :: st) M Q :=
  jv_callT hC (st := st) (i := 0) [] (by decide) (k_length (by decide)) mm_J0_length_8abf5 mi_J0_length_8abf5 ml_X7_73 hd rfl (by omega) rfl rfl hw kk
theorem jv_strat0 {i : Int32} (hC : hm_C X RX7 cc nL ret d n S) (hd : decode cc pc = .ok (.invokevirtual 76, 3)) (hk : 6 ≤ d) (hw : (st.map fun v => v.category).sum ≤ 8) (hi : 0 ≤ i ∧ i < 106) (kk : hm_U X (pc + 3) ls (.int (hm_chr 0 i) :: st) M Q) : hm_U X pc ls (.int i :: .ref 1000000 :: st) M Q :=
  jv_callT hC (st := st) (i := 0) [.int i] (by decide) (k_charAt (by decide) (by
    obtain ⟨h0, h1⟩ := hi
    rintro (h | h)
    · exact absurd h (Int32.not_lt.mpr h0)
    · have h2 : i.toInt < 106 := by simpa using Int32.lt_iff_toInt_lt.mp h1
      have h3 := (hm_i32 h0).2
      have h4 : 106 ≤ i.toNatClampNeg := h
      omega)) mm_J0_charAt_5068e mi_J0_charAt_5068e ml_X7_76 hd rfl (by omega) rfl rfl hw kk
theorem jv_strix1 {c : Int32} (hC : hm_C X RX7 cc nL ret d n S) (hd : decode cc pc = .ok (.invokevirtual 63, 3)) (hk : 6 ≤ d) (hw : (st.map fun v => v.category).sum ≤ 8) (kk : hm_U X (pc + 3) ls (.int (hm_ix 1 c) :: st) M Q) : hm_U X pc ls (.int c :: .ref 1000001 :: st) M Q :=
  jv_callT hC (st := st) (i := 1) [.int c] (by decide) (k_indexOf1 (by decide)) mm_J0_indexOf_0f7a4 mi_J0_indexOf_0f7a4 ml_X7_63 hd rfl (by omega) rfl rfl hw kk
end Rows7
