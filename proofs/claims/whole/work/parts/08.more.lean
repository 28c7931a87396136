/-! texts and copies -/
theorem hm_len_ok {S : hm_S} {a : Nat} {ty : FieldType} (h : hm_len S a ty ≠ 0) : S a = some (.inl (ty, hm_len S a ty)) := by
  unfold hm_len at h ⊢
  cases hs : S a with
  | none => rw [hs] at h; simp at h
  | some q =>
    cases q with
    | inr c => rw [hs] at h; simp at h
    | inl q =>
      obtain ⟨t, n⟩ := q
      rw [hs] at h
      by_cases ht : t = ty
      · subst ht
        simp
      · simp [ht] at h
def hm_chr (k : Nat) (i : Int32) : Int32 := (hm_byts.getD k []).getD i.toNatClampNeg 0
def hm_ixF (c : Int32) : List Int32 → Nat → Int32
  | [], _ => -1
  | b :: l, k => if b = c then nI k else hm_ixF c l (k + 1)
def hm_ix (k : Nat) (c : Int32) : Int32 := hm_ixF c (hm_byts.getD k []) 0
def hm_cp (M : hm_M) (src : Nat) (sp : Int32) (dst : Nat) (dp cnt : Int32) : hm_M := (fun b j => if b = dst ∧ dp.toNatClampNeg ≤ j ∧ j < dp.toNatClampNeg + cnt.toNatClampNeg then M.1 src (sp.toNatClampNeg + (j - dp.toNatClampNeg)) else M.1 b j, M.2.1, M.2.2)
def hm_cpok (S : hm_S) (src : Nat) (sp : Int32) (dst : Nat) (dp cnt : Int32) : Bool := decide (0 ≤ sp) && decide (0 ≤ dp) && decide (0 ≤ cnt) && decide (hm_len S src .int ≠ 0) && decide (hm_len S dst .int ≠ 0) && decide (sp.toNatClampNeg + cnt.toNatClampNeg ≤ hm_len S src .int) && decide (dp.toNatClampNeg + cnt.toNatClampNeg ≤ hm_len S dst .int)
theorem ml_copy : Cond.methodLink RX9 45 arraycopyName ∈ gW := gW_c5 68 rfl rfl
theorem mn_copy : Cond.native arraycopyName ∈ gW := gW_c5 70 rfl rfl
theorem ms_copy : Cond.static arraycopyName ∈ gW := gW_c5 69 rfl rfl
theorem mj_copy : Cond.initialized "java/lang/System" ∈ gW := gW_c1 22 rfl rfl
def hm_min (x y : Int32) : Int32 := if y < x then y else x
def hm_max (x y : Int32) : Int32 := if x < y then y else x
def hm_abs (x : Int32) : Int32 := if 0 ≤ x then x else 0 - x
theorem mj_math : Cond.initialized "java/lang/Math" ∈ gW := gW_c1 18 rfl rfl
theorem ms_min : Cond.static Lib.Math.min.name ∈ gW := gW_c3 42 rfl rfl
theorem ms_max : Cond.static Lib.Math.max.name ∈ gW := gW_c3 39 rfl rfl
theorem ms_abs : Cond.static Lib.Math.abs.name ∈ gW := gW_c5 9 rfl rfl
theorem mc_min : Cond.code Lib.Math.min.name Lib.Math.min.code 2 (some .int) ∈ gW := gW_c3 43 rfl rfl
theorem mc_max : Cond.code Lib.Math.max.name Lib.Math.max.code 2 (some .int) ∈ gW := gW_c3 40 rfl rfl
theorem mc_abs : Cond.code Lib.Math.abs.name Lib.Math.abs.code 1 (some .int) ∈ gW := gW_c5 10 rfl rfl
section Rows5
variable {X : hm_X} {own : String} {cc : ByteArray} {nL : Nat} {ret : Option FieldType} {d n : Nat} {S : hm_S} {pc : Nat} {ls : List (Nat × Value)} {st : List Value} {M : hm_M} {Q : State → Prop}
theorem jv_copy (hC : hm_C X RX9 cc nL ret (d + 1) n S) {src dst : Nat} {sp dp cnt : Int32} (hd : decode cc pc = .ok (.invokestatic 45, 3)) (h : hm_cpok S src sp dst dp cnt = true) (kk : hm_U X (pc + 3) ls [] (hm_cp M src sp dst dp cnt) Q) : hm_U X pc ls [.int cnt, .int dp, .ref dst, .int sp, .ref src] M Q := by
  obtain ⟨⟨p, l, e, R, s⟩, ⟨m, args, below, meth, c⟩, ⟨dC, dI, dA, ad, A⟩, ⟨n', S', nL', cells, slots⟩⟩ := X
  obtain ⟨⟨hx, hb, -, hml, hown, hts, -⟩, ⟨hA, hK, hok, hAn, -⟩, ⟨rfl, rfl, rfl, hfr, hlo, -, -, hr⟩⟩ := hC
  intro H locs la hP hS hl
  simp only [hm_cpok, Bool.and_eq_true, decide_eq_true_eq] at h
  obtain ⟨⟨⟨⟨⟨⟨h1, h2⟩, h3⟩, h4⟩, h5⟩, h6⟩, h7⟩ := h
  have s0 := hm_len_ok h4
  have s1 := hm_len_ok h5
  obtain ⟨r1, r2⟩ := hr _ _ s0
  obtain ⟨q1, q2⟩ := hr _ _ s1
  have h64 : ((([] : List Value).map (hm_tv ad)).map fun v => v.category).sum + (nativeFrameWords "java/lang/System" "arraycopy" 5 + 11) ≤ R.locals := by
    have h65 : nativeFrameWords "java/lang/System" "arraycopy" 5 + 11 ≤ 64 := by decide
    simp only [List.map_nil, List.sum_nil]
    omega
  refine va_copyi hx hb (hml.trans hl.1.symm) hown (hts _ ml_copy) (hts _ mn_copy) (hts _ ms_copy) (hts _ mj_copy) hK hP (hm_D hok hAn) hS (src - 1) (dst - 1) 0 0 (n0 := hm_len S' src .int) (n1 := hm_len S' dst .int) (f := M.1 src) (g := M.1 dst) (ty := .int) (by rw [hm_ws_at r1 r2, hm_E_arr s0]; rfl) (by rw [hm_ws_at q1 q2, hm_E_arr s1]; rfl) rfl rfl rfl (Int32.not_lt.mpr h1) (Int32.not_lt.mpr h2) (Int32.not_lt.mpr h3) h6 h7 (fun _ _ => rfl) (by omega) h64 hd (fun H1 locs1 hP1 _ hS1 => kk H1 locs1 la ?_ hS1 hl)
  rw [hm_ws_arr (M := M) (M' := hm_cp M src sp dst dp cnt) s1 q1 q2 (by simp only [hm_ar, hm_cp]; simp; rfl) (fun b hb => hm_E_same (by funext j; simp [hm_cp, hb]) rfl rfl)] at hP1
  exact hP1
theorem jv_ldcs0 (hC : hm_C X RX7 cc nL ret d n S) (hd : decode cc pc = .ok (.ldc 71, 2)) (kk : hm_U X (pc + 2) ls (.ref 1000000 :: st) M Q) : hm_U X pc ls st M Q := by
  obtain ⟨⟨p, l, e, R, s⟩, ⟨m, args, below, meth, c⟩, ⟨dC, dI, dA, ad, A⟩, ⟨n', S', nL', cells, slots⟩⟩ := X
  obtain ⟨⟨hx, hb, -, -, hown, hts, -⟩, ⟨-, -, -, -, hSt⟩, -⟩ := hC
  intro H locs la hP hS hl
  exact va_ldcS hx hb hown hSt.2.2.2.1 hd (kk H locs la hP hS hl)
theorem jv_ldcs1 (hC : hm_C X RX7 cc nL ret d n S) (hd : decode cc pc = .ok (.ldc 61, 2)) (kk : hm_U X (pc + 2) ls (.ref 1000001 :: st) M Q) : hm_U X pc ls st M Q := by
  obtain ⟨⟨p, l, e, R, s⟩, ⟨m, args, below, meth, c⟩, ⟨dC, dI, dA, ad, A⟩, ⟨n', S', nL', cells, slots⟩⟩ := X
  obtain ⟨⟨hx, hb, -, -, hown, hts, -⟩, ⟨-, -, -, -, hSt⟩, -⟩ := hC
  intro H locs la hP hS hl
  exact va_ldcS hx hb hown hSt.2.2.2.2.1 hd (kk H locs la hP hS hl)
theorem jv_mmin (hC : hm_C X own cc nL ret d n S) {idx : Nat} {x y : Int32} (hl0 : Cond.methodLink own idx Lib.Math.min.name ∈ gW) (hd : decode cc pc = .ok (.invokestatic idx, 3)) (h1 : 1 ≤ d) (hw : (st.map fun v => v.category).sum ≤ 8) (kk : hm_U X (pc + 3) ls (.int (hm_min x y) :: st) M Q) : hm_U X pc ls (.int y :: .int x :: st) M Q := by
  obtain ⟨⟨p, l, e, R, s⟩, ⟨m, args, below, meth, c⟩, ⟨dC, dI, dA, ad, A⟩, ⟨n', S', nL', cells, slots⟩⟩ := X
  obtain ⟨⟨hx, hb, -, hml, hown, hts, -⟩, -, ⟨rfl, rfl, rfl, hfr, hlo, hce, hsl, hr⟩⟩ := hC
  intro H locs la hP hS hl
  have h8 := hm_cat (ad := ad) hw
  have h8 : ((st.map (hm_tv ad)).map fun v => v.category).sum ≤ 8 := by
    have h9 : 2 * 0 + ((st.map (hm_tv ad)).map fun v => v.category).sum ≤ 8 := h8
    omega
  exact va_mmin hx hb (hml.trans hl.1.symm) hown (hts _ hl0) (hts _ ms_min) (hts _ mj_math) (hts _ mc_min) (Nat.le_trans h1 hfr) (by omega) hce hsl hd (kk H locs la hP hS hl)
theorem jv_mmax (hC : hm_C X own cc nL ret d n S) {idx : Nat} {x y : Int32} (hl0 : Cond.methodLink own idx Lib.Math.max.name ∈ gW) (hd : decode cc pc = .ok (.invokestatic idx, 3)) (h1 : 1 ≤ d) (hw : (st.map fun v => v.category).sum ≤ 8) (kk : hm_U X (pc + 3) ls (.int (hm_max x y) :: st) M Q) : hm_U X pc ls (.int y :: .int x :: st) M Q := by
  obtain ⟨⟨p, l, e, R, s⟩, ⟨m, args, below, meth, c⟩, ⟨dC, dI, dA, ad, A⟩, ⟨n', S', nL', cells, slots⟩⟩ := X
  obtain ⟨⟨hx, hb, -, hml, hown, hts, -⟩, -, ⟨rfl, rfl, rfl, hfr, hlo, hce, hsl, hr⟩⟩ := hC
  intro H locs la hP hS hl
  have h8 := hm_cat (ad := ad) hw
  have h8 : ((st.map (hm_tv ad)).map fun v => v.category).sum ≤ 8 := by
    have h9 : 2 * 0 + ((st.map (hm_tv ad)).map fun v => v.category).sum ≤ 8 := h8
    omega
  exact va_mmax hx hb (hml.trans hl.1.symm) hown (hts _ hl0) (hts _ ms_max) (hts _ mj_math) (hts _ mc_max) (Nat.le_trans h1 hfr) (by omega) hce hsl hd (kk H locs la hP hS hl)
theorem jv_mabs (hC : hm_C X own cc nL ret d n S) {idx : Nat} {x : Int32} (hl0 : Cond.methodLink own idx Lib.Math.abs.name ∈ gW) (hd : decode cc pc = .ok (.invokestatic idx, 3)) (h1 : 1 ≤ d) (hw : (st.map fun v => v.category).sum ≤ 8) (kk : hm_U X (pc + 3) ls (.int (hm_abs x) :: st) M Q) : hm_U X pc ls (.int x :: st) M Q := by
  obtain ⟨⟨p, l, e, R, s⟩, ⟨m, args, below, meth, c⟩, ⟨dC, dI, dA, ad, A⟩, ⟨n', S', nL', cells, slots⟩⟩ := X
  obtain ⟨⟨hx, hb, -, hml, hown, hts, -⟩, -, ⟨rfl, rfl, rfl, hfr, hlo, hce, hsl, hr⟩⟩ := hC
  intro H locs la hP hS hl
  have h8 := hm_cat (ad := ad) hw
  have h8 : ((st.map (hm_tv ad)).map fun v => v.category).sum ≤ 8 := by
    have h9 : 2 * 0 + ((st.map (hm_tv ad)).map fun v => v.category).sum ≤ 8 := h8
    omega
  exact va_mabs hx hb (hml.trans hl.1.symm) hown (hts _ hl0) (hts _ ms_abs) (hts _ mj_math) (hts _ mc_abs) (Nat.le_trans h1 hfr) (by omega) hce hsl hd (kk H locs la hP hS hl)
end Rows5
