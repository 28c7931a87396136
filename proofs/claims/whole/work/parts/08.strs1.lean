/-! texts: rows and contracts of the JDK's own methods over the two constants -/
section Rows6
variable {X : hm_X} {own : String} {cc : ByteArray} {nL : Nat} {ret : Option FieldType} {d n : Nat} {S : hm_S} {pc : Nat} {ls : List (Nat × Value)} {st : List Value} {M : hm_M} {Q : State → Prop}
theorem jv_xret {ty : FieldType} (hC : hm_C X own cc nL (some ty) d n S) {x : Int32} (hn : narrow ty (.int x) = .int x) (hd : decode cc pc = .ok (.ireturn, 1)) : hm_U X pc ls [.int x] M (hm_Q X (some (.int x)) M) := by
  obtain ⟨⟨p, l, e, R, s⟩, ⟨m, args, below, meth, c⟩, ⟨dC, dI, dA, ad, A⟩, ⟨n', S', nL', cells, slots⟩⟩ := X
  obtain ⟨⟨hx, hb, hret, hml, hown, hts, hlk⟩, -, -⟩ := hC
  intro H locs la hP hS hl
  exact W.zret hx hb hret hn (fun t ht hW => ⟨rfl, by rw [ht]; exact hP, hS.F ht⟩) hS.2.2 hd hlk
theorem jv_gets1 (hC : hm_C X RJ0 cc nL ret d n S) (hd : decode cc pc = .ok (.getstatic 38, 3)) (kk : hm_U X (pc + 3) ls (.int 1 :: st) M Q) : hm_U X pc ls st M Q := by
  obtain ⟨⟨p, l, e, R, s⟩, ⟨m, args, below, meth, c⟩, ⟨dC, dI, dA, ad, A⟩, ⟨n', S', nL', cells, slots⟩⟩ := X
  obtain ⟨⟨hx, hb, -, -, hown, hts, -⟩, ⟨-, -, -, -, hSt⟩, -⟩ := hC
  intro H locs la hP hS hl
  exact va_gets hx hb hSt.2.1 hS hown (hts _ fs_J0_38) (fun _ h => h) hd (kk H locs la hP hS hl)
theorem jv_getsF (hC : hm_C X RJ0 cc nL ret d n S) (hd : decode cc pc = .ok (.getstatic 1053, 3)) (kk : ∀ v : Value, v = .null ∨ v = .ref 3000000 → hm_U X (pc + 3) ls (v :: st) M Q) : hm_U X pc ls st M Q := by
  obtain ⟨⟨p, l, e, R, s⟩, ⟨m, args, below, meth, c⟩, ⟨dC, dI, dA, ad, A⟩, ⟨n', S', nL', cells, slots⟩⟩ := X
  obtain ⟨⟨hx, hb, -, -, hown, hts, -⟩, ⟨-, -, -, -, hSt⟩, -⟩ := hC
  intro H locs la hP hS hl
  rcases hSt.2.2.1 with h | h
  · exact va_gets hx hb h hS hown (hts _ fs_J0_1053) (fun _ h => h) hd (kk .null (Or.inl rfl) H locs la hP hS hl)
  · exact va_gets hx hb h hS hown (hts _ fs_J0_1053) (fun _ h => h) hd (kk (.ref 3000000) (Or.inr rfl) H locs la hP hS hl)
theorem jv_getSV (hC : hm_C X RJ0 cc nL ret d n S) {i : Nat} (hi : i < 2) (hd : decode cc pc = .ok (.getfield 9, 3)) (kk : hm_U X (pc + 3) ls (.ref (2000000 + i) :: st) M Q) : hm_U X pc ls (.ref (1000000 + i) :: st) M Q := by
  obtain ⟨⟨p, l, e, R, s⟩, ⟨m, args, below, meth, c⟩, ⟨dC, dI, dA, ad, A⟩, ⟨n', S', nL', cells, slots⟩⟩ := X
  obtain ⟨⟨hx, hb, -, -, hown, hts, -⟩, ⟨-, -, -, -, hSt⟩, -⟩ := hC
  intro H locs la hP hS hl
  exact vk_getf hx hb (hSt.1.1 i hi).2.2.1 hS hown (hts _ fs_J0_9) (fun _ h => h) hd (kk H locs la hP hS hl)
theorem jv_getSC (hC : hm_C X RJ0 cc nL ret d n S) {i : Nat} (hi : i < 2) (hd : decode cc pc = .ok (.getfield 15, 3)) (kk : hm_U X (pc + 3) ls (.int 0 :: st) M Q) : hm_U X pc ls (.ref (1000000 + i) :: st) M Q := by
  obtain ⟨⟨p, l, e, R, s⟩, ⟨m, args, below, meth, c⟩, ⟨dC, dI, dA, ad, A⟩, ⟨n', S', nL', cells, slots⟩⟩ := X
  obtain ⟨⟨hx, hb, -, -, hown, hts, -⟩, ⟨-, -, -, -, hSt⟩, -⟩ := hC
  intro H locs la hP hS hl
  exact vk_getf hx hb (hSt.1.1 i hi).2.1 hS hown (hts _ fs_J0_15) (fun _ h => h) hd (kk H locs la hP hS hl)
theorem jv_tlen (hC : hm_C X own cc nL ret d n S) {i : Nat} (hi : i < 2) (hd : decode cc pc = .ok (.arraylength, 1)) (kk : hm_U X (pc + 1) ls (.int (nI (hm_lens.getD i 0)) :: st) M Q) : hm_U X pc ls (.ref (2000000 + i) :: st) M Q := by
  obtain ⟨⟨p, l, e, R, s⟩, ⟨m, args, below, meth, c⟩, ⟨dC, dI, dA, ad, A⟩, ⟨n', S', nL', cells, slots⟩⟩ := X
  obtain ⟨⟨hx, hb, -, -, hown, hts, -⟩, ⟨-, -, -, -, hSt⟩, -⟩ := hC
  intro H locs la hP hS hl
  exact va_tlen hx hb (hSt.1.1 i hi).2.2.2 hS rfl hd (kk H locs la hP hS hl)
theorem jv_tald (hC : hm_C X own cc nL ret d n S) {i : Nat} (hi : i < 2) {j : Int32} (hj : vp_in j (hm_lens.getD i 0)) (hd : decode cc pc = .ok (.baload, 1)) (kk : hm_U X (pc + 1) ls (.int ((hm_byts.getD i []).getD j.toNatClampNeg 0) :: st) M Q) : hm_U X pc ls (.int j :: .ref (2000000 + i) :: st) M Q := by
  obtain ⟨⟨p, l, e, R, s⟩, ⟨m, args, below, meth, c⟩, ⟨dC, dI, dA, ad, A⟩, ⟨n', S', nL', cells, slots⟩⟩ := X
  obtain ⟨⟨hx, hb, -, -, hown, hts, -⟩, ⟨-, -, -, -, hSt⟩, -⟩ := hC
  intro H locs la hP hS hl
  exact va_tb hx hb (hSt.1.1 i hi).2.2.2 hS hj rfl hd (kk H locs la hP hS hl)
/-- a call whose receiver is a text -/
theorem jv_callT (hC : hm_C X own cc nL ret d n S) {y : MethodName} {cy : ByteArray} {nY dy np idx i : Nat} {ry : Option FieldType} {r : Option Value} {M1 : hm_M} (as : List Value) {st0 : List Value} (hi2 : i < 2) (hk : hm_KM y cy nY ry dy n S (.ref (1000000 + i) :: as) M r M1) (hm : hm_MM y cy nY ry np) (hi : hm_MI y) (hl0 : Cond.methodLink own idx y ∈ gW)
    (hd : decode cc pc = .ok (.invokevirtual idx, 3)) (hc : y.cls = "java/lang/String") (hdd : dy + 1 ≤ d) (hn : as.length = np) (hst : st0 = as.reverse ++ .ref (1000000 + i) :: st) (hw : (st.map fun v => v.category).sum ≤ 8)
    (kk : hm_U X (pc + 3) ls (r.toList ++ st) M1 Q) : hm_U X pc ls st0 M Q := by
  obtain ⟨⟨p, l, e, R, s⟩, ⟨m, args, below, meth, c⟩, ⟨dC, dI, dA, ad, A⟩, ⟨n', S', nL', cells, slots⟩⟩ := X
  obtain ⟨⟨hx, hb, -, hml, hown, hts, -⟩, ⟨hA, hK, hok, hAn, hSt⟩, ⟨rfl, rfl, rfl, hfr, hlo, hce, hsl, hr⟩⟩ := hC
  obtain ⟨hm1, hm2, hm3, hm4, hm5, hm6, hm7⟩ := hm
  intro H locs la hP hS hl
  have hgd : GoodIn gW (.code y cy nY ry :: gW) := fun w h => by
    rcases List.mem_cons.mp h with h | h
    · subst h; exact gW_good _ hm1
    · exact gW_good _ h
  have cw : CallW R s args own y.cls idx y cy nY ry (.code y cy nY ry :: gW) (hm_room dy) 0 0 np := by
    refine ⟨⟨rfl, rfl, Nat.le_trans hdd hfr, ?_, pay_in hts hgd, List.mem_cons_self, hts _ hm1, hts _ hm2, ⟨hm3, hm4⟩, ?_, hts _ hl0⟩, hts _ hi.1, hts _ hi.2⟩
    · show 8 + (nY + 11) + 64 * dy ≤ R.locals
      omega
    · intro sig h
      rw [h] at hm5
      exact (Option.some.inj hm5).symm
  have hrv := vk_recv (adK := fun i => ad (1000000 + i)) hSt.1 hi2 hS
  refine hm_behind hA hAn hS (va_runV (As := as.map (hm_tv ad)) (b := ad (1000000 + i)) ⟨hx, hb, hml, hown, hts⟩ (hk l dC dI dA ad H.size) cw ⟨hm_blind, by rw [hc]; exact hrv, fun U hU hW => ⟨rfl, by rw [hU], by rw [hU]; exact hP, va_K.moved hW.alike hK, hok, hSt.to hS hU hW (hm_An_in hA hAn hS), hr⟩⟩ rfl (by rw [List.length_map]; exact hn) hl.1 (by rw [hst]; simp [hm_tv]) (hm_cat hw) hd ⟨hce, hsl⟩) (fun H1 locs1 hP1 hS1 => kk H1 locs1 la hP1 hS1 hl)
end Rows6
section Texts
variable {n : Nat} {S : hm_S} {M : hm_M}
theorem k_coder {i : Nat} (hi : i < 2) : hm_KM yJ0_coder_7d493 cJ0_coder_7d493 1 (some .byte) 0 n S [.ref (1000000 + i)] M (some (.int 0)) M := by
  refine hm_enter mm_J0_coder_7d493 (Nat.le_of_ble_eq_true rfl) (fun X hC => ?_)
  show hm_U X 0 [(0, .ref (1000000 + i))] [] M _
  refine jv_gets1 hC dJ0_coder_7d493_0 ?_
  refine jv_if_eq hC 13 dJ0_coder_7d493_3 (by decide) (fun h => absurd h (by decide)) (fun _ => ?_)
  refine jv_aload_n hC 0 dJ0_coder_7d493_6 rfl ?_
  refine jv_getSC hC hi dJ0_coder_7d493_7 ?_
  refine jv_goto hC 14 dJ0_coder_7d493_10 (by decide) ?_
  exact jv_xret hC (by decide) dJ0_coder_7d493_14
theorem k_isLatin1 {i : Nat} (hi : i < 2) : hm_KM yJ0_isLatin1_aae02 cJ0_isLatin1_aae02 1 (some .boolean) 0 n S [.ref (1000000 + i)] M (some (.int 1)) M := by
  refine hm_enter mm_J0_isLatin1_aae02 (Nat.le_of_ble_eq_true rfl) (fun X hC => ?_)
  show hm_U X 0 [(0, .ref (1000000 + i))] [] M _
  refine jv_gets1 hC dJ0_isLatin1_aae02_0 ?_
  refine jv_if_eq hC 17 dJ0_isLatin1_aae02_3 (by decide) (fun h => absurd h (by decide)) (fun _ => ?_)
  refine jv_aload_n hC 0 dJ0_isLatin1_aae02_6 rfl ?_
  refine jv_getSC hC hi dJ0_isLatin1_aae02_7 ?_
  refine jv_if_ne hC 17 dJ0_isLatin1_aae02_10 (by decide) (fun h => absurd rfl h) (fun _ => ?_)
  refine jv_iconst hC (v := 1) dJ0_isLatin1_aae02_13 (by decide) ?_
  refine jv_goto hC 18 dJ0_isLatin1_aae02_14 (by decide) ?_
  exact jv_xret hC (by decide) dJ0_isLatin1_aae02_18
theorem hm_lens_lt {i : Nat} (hi : i < 2) : hm_lens.getD i 0 < 128 := by
  rcases (show i = 0 ∨ i = 1 by omega) with rfl | rfl <;> decide
theorem k_length {i : Nat} (hi : i < 2) : hm_KM yJ0_length_8abf5 cJ0_length_8abf5 1 (some .int) 1 n S [.ref (1000000 + i)] M (some (.int (nI (hm_lens.getD i 0)))) M := by
  refine hm_enter mm_J0_length_8abf5 (Nat.le_of_ble_eq_true rfl) (fun X hC => ?_)
  show hm_U X 0 [(0, .ref (1000000 + i))] [] M _
  refine jv_aload_n hC 0 dJ0_length_8abf5_0 rfl ?_
  refine jv_getSV hC hi dJ0_length_8abf5_1 ?_
  refine jv_tlen hC hi dJ0_length_8abf5_4 ?_
  refine jv_aload_n hC 0 dJ0_length_8abf5_5 rfl ?_
  refine jv_callT hC (st := [.int (nI (hm_lens.getD i 0))]) [] hi (k_coder hi) mm_J0_coder_7d493 mi_J0_coder_7d493 ml_J0_335 dJ0_length_8abf5_6 rfl (Nat.le_of_ble_eq_true rfl) rfl rfl (Nat.le_of_ble_eq_true rfl) ?_
  refine jv_nf 9 [.int 0, .int (nI (hm_lens.getD i 0))] rfl rfl ?_
  refine jv_ishr hC dJ0_length_8abf5_9 ?_
  have e : (nI (hm_lens.getD i 0)) = nI (hm_lens.getD i 0) >>> ((0 : Int32) &&& 31) := by
    rcases (show i = 0 ∨ i = 1 by omega) with rfl | rfl <;> decide
  refine jv_topI e ?_
  exact jv_iret hC dJ0_length_8abf5_10
theorem k_prec {i k : Int32} {fv : Value} (h : fv = .null ∨ fv = .ref 3000000) (h0 : 0 ≤ i) (h1 : i < k) : hm_KM yJ3_checkIndex_8e157 cJ3_checkIndex_8e157 3 (some .int) 0 n S [.int i, .int k, fv] M (some (.int i)) M := by
  refine hm_enter mm_J3_checkIndex_8e157 (by rcases h with rfl | rfl <;> exact Nat.le_of_ble_eq_true rfl) (fun X hC => ?_)
  show hm_U X 0 [(0, .int i), (1, .int k), (2, fv)] [] M _
  refine jv_iload_n hC 0 dJ3_checkIndex_8e157_0 rfl ?_
  refine jv_if_lt hC 9 dJ3_checkIndex_8e157_1 (by decide) (fun h => absurd h (Int32.not_lt.mpr h0)) (fun _ => ?_)
  refine jv_iload_n hC 0 dJ3_checkIndex_8e157_4 rfl ?_
  refine jv_iload_n hC 1 dJ3_checkIndex_8e157_5 rfl ?_
  refine jv_icmp_lt hC 16 dJ3_checkIndex_8e157_6 (by decide) (fun _ => ?_) (fun h => absurd h1 h)
  refine jv_iload_n hC 0 dJ3_checkIndex_8e157_16 rfl ?_
  exact jv_iret hC dJ3_checkIndex_8e157_17
theorem k_check {i k : Int32} (h0 : 0 ≤ i) (h1 : i < k) : hm_KM yJ0_checkIndex_df160 cJ0_checkIndex_df160 2 none 1 n S [.int i, .int k] M none M := by
  refine hm_enter mm_J0_checkIndex_df160 (Nat.le_of_ble_eq_true rfl) (fun X hC => ?_)
  show hm_U X 0 [(0, .int i), (1, .int k)] [] M _
  refine jv_iload_n hC 0 dJ0_checkIndex_df160_0 rfl ?_
  refine jv_iload_n hC 1 dJ0_checkIndex_df160_1 rfl ?_
  refine jv_getsF hC dJ0_checkIndex_df160_2 (fun v hv => ?_)
  refine jv_callS hC (st := []) [.int i, .int k, v] (k_prec hv h0 h1) mm_J3_checkIndex_8e157 ms_J3_checkIndex_8e157 ml_J0_1059 dJ0_checkIndex_df160_5 (Nat.le_of_ble_eq_true rfl) rfl rfl (Nat.le_of_ble_eq_true rfl) ?_
  refine jv_nf 8 [.int i] rfl rfl ?_
  refine jv_pop hC dJ0_checkIndex_df160_8 rfl ?_
  exact jv_vret hC dJ0_checkIndex_df160_9
theorem hm_byts_ok {i : Nat} (hi : i < 2) : (hm_byts.getD i []).length = hm_lens.getD i 0 ∧ ∀ b ∈ hm_byts.getD i [], ((b &&& 255).toUInt32 % 65536).toInt32 = b ∧ 0 ≤ b ∧ b < 128 := by
  rcases (show i = 0 ∨ i = 1 by omega) with rfl | rfl <;> decide +kernel
theorem hm_getD_mem {l : List Int32} {k : Nat} (h : k < l.length) : l.getD k 0 ∈ l := by
  rw [List.getD_eq_getElem?_getD, List.getElem?_eq_getElem h]
  exact List.getElem_mem h
theorem hm_chr_ok {i : Nat} (hi : i < 2) {j : Int32} (hj : vp_in j (hm_lens.getD i 0)) : (((hm_byts.getD i []).getD j.toNatClampNeg 0 &&& 255).toUInt32 % 65536).toInt32 = hm_chr i j ∧ 0 ≤ hm_chr i j ∧ hm_chr i j < 128 := by
  obtain ⟨h1, h2⟩ := hm_byts_ok hi
  have h3 : j.toNatClampNeg < (hm_byts.getD i []).length := by
    rw [h1]
    exact Nat.lt_of_not_le (fun h => hj (Or.inr h))
  have h4 := h2 ((hm_byts.getD i []).getD j.toNatClampNeg 0) (hm_getD_mem h3)
  exact h4
theorem hm_nar_chr {x : Int32} (h0 : 0 ≤ x) (h1 : x < 128) : narrow .char (.int x) = .int x := by
  have e : x = Int32.ofNat x.toNatClampNeg := by
    apply Int32.toInt_inj.mp
    have h2 : (0 : Int) ≤ x.toInt := by simpa using Int32.le_iff_toInt_le.mp h0
    have h3 : x.toInt < 128 := by simpa using Int32.lt_iff_toInt_lt.mp h1
    rw [Int32.toInt_ofNat_of_lt (by show x.toInt.toNat < _; omega)]
    show x.toInt = ((x.toInt.toNat : Nat) : Int)
    omega
  have h5 : x.toNatClampNeg < 128 := by
    have h3 : x.toInt < 128 := by simpa using Int32.lt_iff_toInt_lt.mp h1
    show x.toInt.toNat < 128
    omega
  have h6 : ∀ k, k < 128 → narrow .char (.int (Int32.ofNat k)) = .int (Int32.ofNat k) := by decide +kernel
  rw [e]
  exact h6 _ h5
theorem k_latCharAt {i : Nat} (hi : i < 2) {j : Int32} (hj : vp_in j (hm_lens.getD i 0)) : hm_KM yJ1_charAt_3b067 cJ1_charAt_3b067 2 (some .char) 2 n S [.ref (2000000 + i), .int j] M (some (.int (hm_chr i j))) M := by
  have hj0 : 0 ≤ j := Int32.not_lt.mp (fun h => hj (Or.inl h))
  have hj1 : j < nI (hm_lens.getD i 0) := by
    have h1 : j.toNatClampNeg < hm_lens.getD i 0 := Nat.lt_of_not_le (fun h => hj (Or.inr h))
    have h2 := hm_lens_lt hi
    rw [Int32.lt_iff_toInt_lt, nI, Int32.toInt_ofNat_of_lt (by omega)]
    have h3 : (0 : Int) ≤ j.toInt := by simpa using Int32.le_iff_toInt_le.mp hj0
    have h4 : j.toInt.toNat < hm_lens.getD i 0 := h1
    omega
  obtain ⟨q1, q2, q3⟩ := hm_chr_ok hi hj
  refine hm_enter mm_J1_charAt_3b067 (Nat.le_of_ble_eq_true rfl) (fun X hC => ?_)
  show hm_U X 0 [(0, .ref (2000000 + i)), (1, .int j)] [] M _
  refine jv_iload_n hC 1 dJ1_charAt_3b067_0 rfl ?_
  refine jv_aload_n hC 0 dJ1_charAt_3b067_1 rfl ?_
  refine jv_tlen hC hi dJ1_charAt_3b067_2 ?_
  refine jv_callS hC (st := []) [.int j, .int (nI (hm_lens.getD i 0))] (k_check hj0 hj1) mm_J0_checkIndex_df160 ms_J0_checkIndex_df160 ml_J1_9 dJ1_charAt_3b067_3 (Nat.le_of_ble_eq_true rfl) rfl rfl (Nat.le_of_ble_eq_true rfl) ?_
  refine jv_nf 6 [] rfl rfl ?_
  refine jv_aload_n hC 0 dJ1_charAt_3b067_6 rfl ?_
  refine jv_iload_n hC 1 dJ1_charAt_3b067_7 rfl ?_
  refine jv_tald hC hi hj dJ1_charAt_3b067_8 ?_
  refine jv_sipush hC (v := 255) dJ1_charAt_3b067_9 (by decide) ?_
  refine jv_iand hC dJ1_charAt_3b067_12 ?_
  refine jv_i2c hC dJ1_charAt_3b067_13 ?_
  refine jv_topI q1.symm ?_
  exact jv_xret hC (hm_nar_chr q2 q3) dJ1_charAt_3b067_14
theorem k_charAt {i : Nat} (hi : i < 2) {j : Int32} (hj : vp_in j (hm_lens.getD i 0)) : hm_KM yJ0_charAt_5068e cJ0_charAt_5068e 2 (some .char) 3 n S [.ref (1000000 + i), .int j] M (some (.int (hm_chr i j))) M := by
  obtain ⟨q1, q2, q3⟩ := hm_chr_ok hi hj
  refine hm_enter mm_J0_charAt_5068e (Nat.le_of_ble_eq_true rfl) (fun X hC => ?_)
  show hm_U X 0 [(0, .ref (1000000 + i)), (1, .int j)] [] M _
  refine jv_aload_n hC 0 dJ0_charAt_5068e_0 rfl ?_
  refine jv_callT hC (st := []) [] hi (k_isLatin1 hi) mm_J0_isLatin1_aae02 mi_J0_isLatin1_aae02 ml_J0_492 dJ0_charAt_5068e_1 rfl (Nat.le_of_ble_eq_true rfl) rfl rfl (Nat.le_of_ble_eq_true rfl) ?_
  refine jv_nf 4 [.int 1] rfl rfl ?_
  refine jv_if_eq hC 16 dJ0_charAt_5068e_4 (by decide) (fun h => absurd h (by decide)) (fun _ => ?_)
  refine jv_aload_n hC 0 dJ0_charAt_5068e_7 rfl ?_
  refine jv_getSV hC hi dJ0_charAt_5068e_8 ?_
  refine jv_iload_n hC 1 dJ0_charAt_5068e_11 rfl ?_
  refine jv_callS hC (st := []) [.ref (2000000 + i), .int j] (k_latCharAt hi hj) mm_J1_charAt_3b067 ms_J1_charAt_3b067 ml_J0_495 dJ0_charAt_5068e_12 (Nat.le_of_ble_eq_true rfl) rfl rfl (Nat.le_of_ble_eq_true rfl) ?_
  refine jv_nf 15 [.int (hm_chr i j)] rfl rfl ?_
  exact jv_xret hC (hm_nar_chr q2 q3) dJ0_charAt_5068e_15
end Texts
