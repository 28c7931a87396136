/-! ROWS: fields, arrays, calls, ends -/
def hm_kd (ty : FieldType) : Nat := match ty with
  | .long => 1
  | .object _ => 2
  | .array _ => 2
  | _ => 0
theorem hm_fv0 {ad : Nat → Nat} {M : hm_M} {a j : Nat} {ty : FieldType} (h : hm_kd ty = 0) : hm_fv ad M a ty j = .int (M.1 a j) := by cases ty <;> first | rfl | cases h
theorem hm_fv1 {ad : Nat → Nat} {M : hm_M} {a j : Nat} {ty : FieldType} (h : hm_kd ty = 1) : hm_fv ad M a ty j = .long (M.2.1 a j) := by cases ty <;> first | rfl | cases h
theorem hm_fv2 {ad : Nat → Nat} {M : hm_M} {a j : Nat} {ty : FieldType} (h : hm_kd ty = 2) : hm_fv ad M a ty j = va_rf (hm_on ad (M.2.2 a j)) := by cases ty <;> first | rfl | cases h
theorem hm_fv_same {ad : Nat → Nat} {M M' : hm_M} {a j : Nat} {ty : FieldType} (h1 : M'.1 a j = M.1 a j) (h2 : M'.2.1 a j = M.2.1 a j) (h3 : M'.2.2 a j = M.2.2 a j) : hm_fv ad M' a ty j = hm_fv ad M a ty j := by
  cases ty <;> simp only [hm_fv, h1, h2, h3]
theorem hm_up_nj {α : Type} {f : Nat → Nat → α} {a i : Nat} {v : α} {b j : Nat} (h : j ≠ i) : hm_up f a i v b j = f b j := by simp [hm_up, h]
theorem hm_up_at {α : Type} {f : Nat → Nat → α} {a i : Nat} {v : α} : hm_up f a i v a i = v := by simp [hm_up]
/-- a field's row of a class's pool -/
def hm_FL (own : String) (idx ci k : Nat) (fin : Bool) : Prop := k < hm_N ci ∧ ∃ (C : String) (T : u_T), vwCl[ci]? = some (C, T, hm_N ci) ∧ (∀ w ∈ u_ws C T (hm_N ci), w ∈ gW) ∧ Cond.fieldLink own idx (T k).1 (T k).2.1 (T k).2.2.1 ∈ gW ∧
  (∀ j, j < hm_N ci → parseFieldDescriptor (T j).2.2.1 = some (hm_ty ci j)) ∧ (∀ a, a < hm_N ci → ∀ b, b < hm_N ci → a ≠ b → (T a).2.1 ≠ (T b).2.1) ∧ (T k).2.2.2 = fin ∧ (T k).1 = C
theorem hm_D {ad : Nat → Nat} {A : Nat → Prop} {n : Nat} {dA : FieldType → ClassId} {S : hm_S} {M : hm_M} (h1 : hm_ok ad n) (h2 : ∀ i, i < n → A (ad (i + 1))) : va_D A (hm_ws dA ad S n M) := by
  have at' : ∀ (k : Nat) (q : Nat × va_E), (hm_ws dA ad S n M)[k]? = some q → k < n ∧ q.1 = ad (k + 1) := by
    intro k q h
    by_cases hk : k < n
    · simp [hm_ws, hk] at h
      exact ⟨hk, by rw [← h]⟩
    · simp [hm_ws, hk] at h
  refine ⟨fun i j p q hp hq hpq => ?_, fun k q hq => ?_⟩
  · obtain ⟨a1, a2⟩ := at' i p hp
    obtain ⟨b1, b2⟩ := at' j q hq
    exact h1 i j a1 b1 (by rw [← a2, ← b2, hpq])
  · obtain ⟨a1, a2⟩ := at' k q hq
    rw [a2]
    exact h2 k a1
section Rows3
variable {X : hm_X} {own : String} {cc : ByteArray} {nL : Nat} {ret : Option FieldType} {d n : Nat} {S : hm_S} {pc : Nat} {ls : List (Nat × Value)} {st : List Value} {M : hm_M} {Q : State → Prop}
theorem jv_getI (hC : hm_C X own cc nL ret d n S) {idx ci k a : Nat} {fin : Bool} (hf : hm_FL own idx ci k fin) (hd : decode cc pc = .ok (.getfield idx, 3)) (hk : hm_kd (hm_ty ci k) = 0) (hs : S a = some (.inr ci)) (kk : hm_U X (pc + 3) ls (.int (M.1 a k) :: st) M Q) : hm_U X pc ls (.ref a :: st) M Q := by
  obtain ⟨⟨p, l, e, R, s⟩, ⟨m, args, below, meth, c⟩, ⟨dC, dI, dA, ad, A⟩, ⟨n', S', nL', cells, slots⟩⟩ := X
  obtain ⟨⟨hx, hb, -, -, hown, hts, -⟩, ⟨hA, hK, hok, hAn, -⟩, ⟨rfl, -, rfl, -, -, -, -, hr⟩⟩ := hC
  obtain ⟨hkN, C, T, hc, hin, hl0, hty, hnm, -, hdc⟩ := hf
  intro H locs la hP hS hl
  obtain ⟨r1, r2⟩ := hr _ _ hs
  exact va_get hx hb hts hin hown hK hP (a - 1) (by rw [hm_ws_at r1 r2, hm_E_obj hs]) hc k hkN (hts _ hl0) (fun _ h => h) (by rw [hm_fs_get hkN, hm_fv0 hk]; rfl) hd (kk H locs la hP hS hl)
theorem jv_getL (hC : hm_C X own cc nL ret d n S) {idx ci k a : Nat} {fin : Bool} (hf : hm_FL own idx ci k fin) (hd : decode cc pc = .ok (.getfield idx, 3)) (hk : hm_kd (hm_ty ci k) = 1) (hs : S a = some (.inr ci)) (kk : hm_U X (pc + 3) ls (.long (M.2.1 a k) :: st) M Q) : hm_U X pc ls (.ref a :: st) M Q := by
  obtain ⟨⟨p, l, e, R, s⟩, ⟨m, args, below, meth, c⟩, ⟨dC, dI, dA, ad, A⟩, ⟨n', S', nL', cells, slots⟩⟩ := X
  obtain ⟨⟨hx, hb, -, -, hown, hts, -⟩, ⟨hA, hK, hok, hAn, -⟩, ⟨rfl, -, rfl, -, -, -, -, hr⟩⟩ := hC
  obtain ⟨hkN, C, T, hc, hin, hl0, hty, hnm, -, hdc⟩ := hf
  intro H locs la hP hS hl
  obtain ⟨r1, r2⟩ := hr _ _ hs
  exact va_get hx hb hts hin hown hK hP (a - 1) (by rw [hm_ws_at r1 r2, hm_E_obj hs]) hc k hkN (hts _ hl0) (fun _ h => h) (by rw [hm_fs_get hkN, hm_fv1 hk]; rfl) hd (kk H locs la hP hS hl)
theorem jv_getR (hC : hm_C X own cc nL ret d n S) {idx ci k a : Nat} {fin : Bool} (hf : hm_FL own idx ci k fin) (hd : decode cc pc = .ok (.getfield idx, 3)) (hk : hm_kd (hm_ty ci k) = 2) (hs : S a = some (.inr ci)) (hz : M.2.2 a k ≠ 0) (kk : hm_U X (pc + 3) ls (.ref (M.2.2 a k) :: st) M Q) : hm_U X pc ls (.ref a :: st) M Q := by
  obtain ⟨⟨p, l, e, R, s⟩, ⟨m, args, below, meth, c⟩, ⟨dC, dI, dA, ad, A⟩, ⟨n', S', nL', cells, slots⟩⟩ := X
  obtain ⟨⟨hx, hb, -, -, hown, hts, -⟩, ⟨hA, hK, hok, hAn, -⟩, ⟨rfl, -, rfl, -, -, -, -, hr⟩⟩ := hC
  obtain ⟨hkN, C, T, hc, hin, hl0, hty, hnm, -, hdc⟩ := hf
  intro H locs la hP hS hl
  obtain ⟨r1, r2⟩ := hr _ _ hs
  exact va_get hx hb hts hin hown hK hP (a - 1) (by rw [hm_ws_at r1 r2, hm_E_obj hs]) hc k hkN (hts _ hl0) (fun _ h => h) (by rw [hm_fs_get hkN, hm_fv2 hk, hm_on, if_neg hz]; rfl) hd (kk H locs la hP hS hl)
theorem hm_ws_put {dA : FieldType → ClassId} {ad : Nat → Nat} {M M' : hm_M} {a ci k : Nat} {v : Value} (hs : S a = some (.inr ci)) (h1 : 1 ≤ a) (h2 : a ≤ n) (hkN : k < hm_N ci) (hv : hm_fv ad M' a (hm_ty ci k) k = v) (ho : ∀ b, b ≠ a → hm_E dA ad S M' b = hm_E dA ad S M b) (hj : ∀ j, j ≠ k → hm_fv ad M' a (hm_ty ci j) j = hm_fv ad M a (hm_ty ci j) j) :
    (hm_ws dA ad S n M).set (a - 1) (ad a, .inr (ci, (hm_fs ad M a ci).set k v)) = hm_ws dA ad S n M' := by
  rw [← hv, hm_fs_set hkN hj, ← hm_ws_set h1 h2 ho, hm_E_obj hs]
theorem jv_putI (hC : hm_C X own cc nL ret d n S) {idx ci k a : Nat} {x : Int32} (hf : hm_FL own idx ci k false) (hd : decode cc pc = .ok (.putfield idx, 3)) (hk : hm_kd (hm_ty ci k) = 0) (hn : narrow (hm_ty ci k) (.int x) = .int x) (hfit : fits (hm_ty ci k) (.int x) = true) (hs : S a = some (.inr ci)) (kk : hm_U X (pc + 3) ls st (hm_wI M a k x) Q) : hm_U X pc ls (.int x :: .ref a :: st) M Q := by
  obtain ⟨⟨p, l, e, R, s⟩, ⟨m, args, below, meth, c⟩, ⟨dC, dI, dA, ad, A⟩, ⟨n', S', nL', cells, slots⟩⟩ := X
  obtain ⟨⟨hx, hb, -, -, hown, hts, -⟩, ⟨hA, hK, hok, hAn, -⟩, ⟨rfl, -, rfl, -, -, -, -, hr⟩⟩ := hC
  obtain ⟨hkN, C, T, hc, hin, hl0, hty, hnm, hfin, hdc⟩ := hf
  intro H locs la hP hS hl
  obtain ⟨r1, r2⟩ := hr _ _ hs
  refine va_put hx hb hts hin (hm_ty ci) hty hnm hown hK hP (hm_D hok hAn) hS (a - 1) (fs := hm_fs ad M a ci) (by rw [hm_ws_at r1 r2, hm_E_obj hs]) hc k hkN (hts _ hl0) (fun _ h => h) hfin (hty k hkN) hn hfit (by simp [hm_fs, hkN]) hd (fun H1 locs1 hP1 _ hS1 => kk H1 locs1 la ?_ hS1 hl)
  rw [hm_ws_put (M := M) (M' := hm_wI M a k x) hs r1 r2 hkN (by rw [hm_fv0 hk]; simp only [hm_wI]; rw [hm_up_at]; rfl) (fun b hb => hm_E_same (hm_up_ne hb) rfl rfl) (fun j hj => hm_fv_same (hm_up_nj hj) rfl rfl)] at hP1
  exact hP1
theorem jv_putL (hC : hm_C X own cc nL ret d n S) {idx ci k a : Nat} {x : Int64} (hf : hm_FL own idx ci k false) (hd : decode cc pc = .ok (.putfield idx, 3)) (hk : hm_ty ci k = .long) (hs : S a = some (.inr ci)) (kk : hm_U X (pc + 3) ls st (hm_wL M a k x) Q) : hm_U X pc ls (.long x :: .ref a :: st) M Q := by
  obtain ⟨⟨p, l, e, R, s⟩, ⟨m, args, below, meth, c⟩, ⟨dC, dI, dA, ad, A⟩, ⟨n', S', nL', cells, slots⟩⟩ := X
  obtain ⟨⟨hx, hb, -, -, hown, hts, -⟩, ⟨hA, hK, hok, hAn, -⟩, ⟨rfl, -, rfl, -, -, -, -, hr⟩⟩ := hC
  obtain ⟨hkN, C, T, hc, hin, hl0, hty, hnm, hfin, hdc⟩ := hf
  intro H locs la hP hS hl
  obtain ⟨r1, r2⟩ := hr _ _ hs
  refine va_put hx hb hts hin (hm_ty ci) hty hnm hown hK hP (hm_D hok hAn) hS (a - 1) (fs := hm_fs ad M a ci) (by rw [hm_ws_at r1 r2, hm_E_obj hs]) hc k hkN (hts _ hl0) (fun _ h => h) hfin (hty k hkN) (by rw [hk]; rfl) (by rw [hk]; rfl) (by simp [hm_fs, hkN]) hd (fun H1 locs1 hP1 _ hS1 => kk H1 locs1 la ?_ hS1 hl)
  rw [hm_ws_put (M := M) (M' := hm_wL M a k x) hs r1 r2 hkN (by rw [hm_fv1 (by rw [hk]; rfl)]; simp only [hm_wL]; rw [hm_up_at]; rfl) (fun b hb => hm_E_same rfl (hm_up_ne hb) rfl) (fun j hj => hm_fv_same rfl (hm_up_nj hj) rfl)] at hP1
  exact hP1
theorem jv_putR (hC : hm_C X own cc nL ret d n S) {idx ci k a x : Nat} (hf : hm_FL own idx ci k false) (hd : decode cc pc = .ok (.putfield idx, 3)) {C0 : String} (hk : hm_ty ci k = .object C0) (hs : S a = some (.inr ci)) (hz : x ≠ 0) (kk : hm_U X (pc + 3) ls st (hm_wR M a k x) Q) : hm_U X pc ls (.ref x :: .ref a :: st) M Q := by
  obtain ⟨⟨p, l, e, R, s⟩, ⟨m, args, below, meth, c⟩, ⟨dC, dI, dA, ad, A⟩, ⟨n', S', nL', cells, slots⟩⟩ := X
  obtain ⟨⟨hx, hb, -, -, hown, hts, -⟩, ⟨hA, hK, hok, hAn, -⟩, ⟨rfl, -, rfl, -, -, -, -, hr⟩⟩ := hC
  obtain ⟨hkN, C, T, hc, hin, hl0, hty, hnm, hfin, hdc⟩ := hf
  intro H locs la hP hS hl
  obtain ⟨r1, r2⟩ := hr _ _ hs
  refine va_put hx hb hts hin (hm_ty ci) hty hnm hown hK hP (hm_D hok hAn) hS (a - 1) (fs := hm_fs ad M a ci) (by rw [hm_ws_at r1 r2, hm_E_obj hs]) hc k hkN (hts _ hl0) (fun _ h => h) hfin (hty k hkN) (by rw [hk]; rfl) (by rw [hk]; rfl) (by simp [hm_fs, hkN]) hd (fun H1 locs1 hP1 _ hS1 => kk H1 locs1 la ?_ hS1 hl)
  rw [hm_ws_put (M := M) (M' := hm_wR M a k x) hs r1 r2 hkN (by rw [hm_fv2 (by rw [hk]; rfl)]; simp only [hm_wR]; rw [hm_up_at, hm_on, if_neg hz]; rfl) (fun b hb => hm_E_same rfl rfl (hm_up_ne hb)) (fun j hj => hm_fv_same rfl rfl (hm_up_nj hj))] at hP1
  exact hP1
theorem jv_iaload (hC : hm_C X own cc nL ret d n S) {a len : Nat} {i : Int32} (hd : decode cc pc = .ok (.iaload, 1)) (hs : S a = some (.inl (.int, len))) (hi : vp_in i len) (kk : hm_U X (pc + 1) ls (.int (M.1 a i.toNatClampNeg) :: st) M Q) : hm_U X pc ls (.int i :: .ref a :: st) M Q := by
  obtain ⟨⟨p, l, e, R, s⟩, ⟨m, args, below, meth, c⟩, ⟨dC, dI, dA, ad, A⟩, ⟨n', S', nL', cells, slots⟩⟩ := X
  obtain ⟨⟨hx, hb, -, -, hown, hts, -⟩, ⟨hA, hK, hok, hAn, -⟩, ⟨rfl, -, rfl, -, -, -, -, hr⟩⟩ := hC
  intro H locs la hP hS hl
  obtain ⟨r1, r2⟩ := hr _ _ hs
  exact va_iald hx hb hK hP (a - 1) 0 (by rw [hm_ws_at r1 r2, hm_E_arr hs]; rfl) rfl hi hd (kk H locs la hP hS hl)
theorem jv_laload (hC : hm_C X own cc nL ret d n S) {a len : Nat} {i : Int32} (hd : decode cc pc = .ok (.laload, 1)) (hs : S a = some (.inl (.long, len))) (hi : vp_in i len) (kk : hm_U X (pc + 1) ls (.long (M.2.1 a i.toNatClampNeg) :: st) M Q) : hm_U X pc ls (.int i :: .ref a :: st) M Q := by
  obtain ⟨⟨p, l, e, R, s⟩, ⟨m, args, below, meth, c⟩, ⟨dC, dI, dA, ad, A⟩, ⟨n', S', nL', cells, slots⟩⟩ := X
  obtain ⟨⟨hx, hb, -, -, hown, hts, -⟩, ⟨hA, hK, hok, hAn, -⟩, ⟨rfl, -, rfl, -, -, -, -, hr⟩⟩ := hC
  intro H locs la hP hS hl
  obtain ⟨r1, r2⟩ := hr _ _ hs
  exact va_lald hx hb hK hP (a - 1) 1 (by rw [hm_ws_at r1 r2, hm_E_arr hs]; rfl) rfl hi hd (kk H locs la hP hS hl)
theorem jv_baload (hC : hm_C X own cc nL ret d n S) {a len : Nat} {i : Int32} (hd : decode cc pc = .ok (.baload, 1)) (hs : S a = some (.inl (.byte, len))) (hi : vp_in i len) (kk : hm_U X (pc + 1) ls (.int (M.1 a i.toNatClampNeg) :: st) M Q) : hm_U X pc ls (.int i :: .ref a :: st) M Q := by
  obtain ⟨⟨p, l, e, R, s⟩, ⟨m, args, below, meth, c⟩, ⟨dC, dI, dA, ad, A⟩, ⟨n', S', nL', cells, slots⟩⟩ := X
  obtain ⟨⟨hx, hb, -, -, hown, hts, -⟩, ⟨hA, hK, hok, hAn, -⟩, ⟨rfl, -, rfl, -, -, -, -, hr⟩⟩ := hC
  intro H locs la hP hS hl
  obtain ⟨r1, r2⟩ := hr _ _ hs
  exact va_bald hx hb hK hP (a - 1) 2 (by rw [hm_ws_at r1 r2, hm_E_arr hs]; rfl) rfl hi hd (kk H locs la hP hS hl)
theorem jv_zaload (hC : hm_C X own cc nL ret d n S) {a len : Nat} {i : Int32} (hd : decode cc pc = .ok (.baload, 1)) (hs : S a = some (.inl (.boolean, len))) (hi : vp_in i len) (kk : hm_U X (pc + 1) ls (.int (M.1 a i.toNatClampNeg) :: st) M Q) : hm_U X pc ls (.int i :: .ref a :: st) M Q := by
  obtain ⟨⟨p, l, e, R, s⟩, ⟨m, args, below, meth, c⟩, ⟨dC, dI, dA, ad, A⟩, ⟨n', S', nL', cells, slots⟩⟩ := X
  obtain ⟨⟨hx, hb, -, -, hown, hts, -⟩, ⟨hA, hK, hok, hAn, -⟩, ⟨rfl, -, rfl, -, -, -, -, hr⟩⟩ := hC
  intro H locs la hP hS hl
  obtain ⟨r1, r2⟩ := hr _ _ hs
  exact va_zald hx hb hK hP (a - 1) 3 (by rw [hm_ws_at r1 r2, hm_E_arr hs]; rfl) rfl hi hd (kk H locs la hP hS hl)
theorem jv_aaload (hC : hm_C X own cc nL ret d n S) {a len : Nat} {i : Int32} (hd : decode cc pc = .ok (.aaload, 1)) (hs : S a = some (.inl (.object "PaneSpots$Hold", len))) (hi : vp_in i len) (hz : M.2.2 a i.toNatClampNeg ≠ 0) (kk : hm_U X (pc + 1) ls (.ref (M.2.2 a i.toNatClampNeg) :: st) M Q) : hm_U X pc ls (.int i :: .ref a :: st) M Q := by
  obtain ⟨⟨p, l, e, R, s⟩, ⟨m, args, below, meth, c⟩, ⟨dC, dI, dA, ad, A⟩, ⟨n', S', nL', cells, slots⟩⟩ := X
  obtain ⟨⟨hx, hb, -, -, hown, hts, -⟩, ⟨hA, hK, hok, hAn, -⟩, ⟨rfl, -, rfl, -, -, -, -, hr⟩⟩ := hC
  intro H locs la hP hS hl
  obtain ⟨r1, r2⟩ := hr _ _ hs
  refine va_aldq hx hb hK hP (a - 1) 4 (C := "PaneSpots$Hold") (by rw [hm_ws_at r1 r2, hm_E_arr hs]; rfl) rfl hi hd ?_
  have h := kk H locs la hP hS hl
  simp only [hm_on, if_neg hz]
  exact h
theorem hm_ws_arr {dA : FieldType → ClassId} {ad : Nat → Nat} {M M' : hm_M} {a len : Nat} {ty : FieldType} {x : vp_A} (hs : S a = some (.inl (ty, len))) (h1 : 1 ≤ a) (h2 : a ≤ n) (hv : hm_ar ad M' a len ty = x) (ho : ∀ b, b ≠ a → hm_E dA ad S M' b = hm_E dA ad S M b) :
    (hm_ws dA ad S n M).set (a - 1) (ad a, .inl (dA ty, x)) = hm_ws dA ad S n M' := by
  rw [← hv, ← hm_ws_set h1 h2 ho, hm_E_arr hs]
theorem jv_iastore (hC : hm_C X own cc nL ret d n S) {a len : Nat} {i x : Int32} (hd : decode cc pc = .ok (.iastore, 1)) (hs : S a = some (.inl (.int, len))) (hi : vp_in i len) (kk : hm_U X (pc + 1) ls st (hm_wI M a i.toNatClampNeg x) Q) : hm_U X pc ls (.int x :: .int i :: .ref a :: st) M Q := by
  obtain ⟨⟨p, l, e, R, s⟩, ⟨m, args, below, meth, c⟩, ⟨dC, dI, dA, ad, A⟩, ⟨n', S', nL', cells, slots⟩⟩ := X
  obtain ⟨⟨hx, hb, -, -, hown, hts, -⟩, ⟨hA, hK, hok, hAn, -⟩, ⟨rfl, -, rfl, -, -, -, -, hr⟩⟩ := hC
  intro H locs la hP hS hl
  obtain ⟨r1, r2⟩ := hr _ _ hs
  refine va_iast hx hb hK hP (hm_D hok hAn) hS (a - 1) 0 (n := len) (f := M.1 a) (by rw [hm_ws_at r1 r2, hm_E_arr hs]; rfl) rfl hi hd (fun H1 locs1 hP1 _ hS1 => kk H1 locs1 la ?_ hS1 hl)
  rw [hm_ws_arr (M := M) (M' := hm_wI M a i.toNatClampNeg x) hs r1 r2 (by simp only [hm_ar, hm_wI]; rw [hm_up_eq]) (fun b hb => hm_E_same (hm_up_ne hb) rfl rfl)] at hP1
  exact hP1
theorem jv_lastore (hC : hm_C X own cc nL ret d n S) {a len : Nat} {i : Int32} {x : Int64} (hd : decode cc pc = .ok (.lastore, 1)) (hs : S a = some (.inl (.long, len))) (hi : vp_in i len) (kk : hm_U X (pc + 1) ls st (hm_wL M a i.toNatClampNeg x) Q) : hm_U X pc ls (.long x :: .int i :: .ref a :: st) M Q := by
  obtain ⟨⟨p, l, e, R, s⟩, ⟨m, args, below, meth, c⟩, ⟨dC, dI, dA, ad, A⟩, ⟨n', S', nL', cells, slots⟩⟩ := X
  obtain ⟨⟨hx, hb, -, -, hown, hts, -⟩, ⟨hA, hK, hok, hAn, -⟩, ⟨rfl, -, rfl, -, -, -, -, hr⟩⟩ := hC
  intro H locs la hP hS hl
  obtain ⟨r1, r2⟩ := hr _ _ hs
  refine va_last hx hb hK hP (hm_D hok hAn) hS (a - 1) 1 (n := len) (f := M.2.1 a) (by rw [hm_ws_at r1 r2, hm_E_arr hs]; rfl) rfl hi hd (fun H1 locs1 hP1 _ hS1 => kk H1 locs1 la ?_ hS1 hl)
  rw [hm_ws_arr (M := M) (M' := hm_wL M a i.toNatClampNeg x) hs r1 r2 (by simp only [hm_ar, hm_wL]; rw [hm_up_eqL]) (fun b hb => hm_E_same rfl (hm_up_ne hb) rfl)] at hP1
  exact hP1
theorem jv_bastore (hC : hm_C X own cc nL ret d n S) {a len : Nat} {i x : Int32} (hd : decode cc pc = .ok (.bastore, 1)) (hs : S a = some (.inl (.byte, len))) (hi : vp_in i len) (kk : hm_U X (pc + 1) ls st (hm_wI M a i.toNatClampNeg (vp_nar .byte x)) Q) : hm_U X pc ls (.int x :: .int i :: .ref a :: st) M Q := by
  obtain ⟨⟨p, l, e, R, s⟩, ⟨m, args, below, meth, c⟩, ⟨dC, dI, dA, ad, A⟩, ⟨n', S', nL', cells, slots⟩⟩ := X
  obtain ⟨⟨hx, hb, -, -, hown, hts, -⟩, ⟨hA, hK, hok, hAn, -⟩, ⟨rfl, -, rfl, -, -, -, -, hr⟩⟩ := hC
  intro H locs la hP hS hl
  obtain ⟨r1, r2⟩ := hr _ _ hs
  refine va_bast hx hb hK hP (hm_D hok hAn) hS (a - 1) 2 (n := len) (f := M.1 a) (by rw [hm_ws_at r1 r2, hm_E_arr hs]; rfl) rfl hi hd (fun H1 locs1 hP1 _ hS1 => kk H1 locs1 la ?_ hS1 hl)
  rw [hm_ws_arr (M := M) (M' := hm_wI M a i.toNatClampNeg (vp_nar .byte x)) hs r1 r2 (by simp only [hm_ar, hm_wI]; rw [hm_up_eq]) (fun b hb => hm_E_same (hm_up_ne hb) rfl rfl)] at hP1
  exact hP1
theorem jv_zastore (hC : hm_C X own cc nL ret d n S) {a len : Nat} {i x : Int32} (hd : decode cc pc = .ok (.bastore, 1)) (hs : S a = some (.inl (.boolean, len))) (hi : vp_in i len) (kk : hm_U X (pc + 1) ls st (hm_wI M a i.toNatClampNeg (vp_nar .boolean x)) Q) : hm_U X pc ls (.int x :: .int i :: .ref a :: st) M Q := by
  obtain ⟨⟨p, l, e, R, s⟩, ⟨m, args, below, meth, c⟩, ⟨dC, dI, dA, ad, A⟩, ⟨n', S', nL', cells, slots⟩⟩ := X
  obtain ⟨⟨hx, hb, -, -, hown, hts, -⟩, ⟨hA, hK, hok, hAn, -⟩, ⟨rfl, -, rfl, -, -, -, -, hr⟩⟩ := hC
  intro H locs la hP hS hl
  obtain ⟨r1, r2⟩ := hr _ _ hs
  refine va_zast hx hb hK hP (hm_D hok hAn) hS (a - 1) 3 (n := len) (f := M.1 a) (by rw [hm_ws_at r1 r2, hm_E_arr hs]; rfl) rfl hi hd (fun H1 locs1 hP1 _ hS1 => kk H1 locs1 la ?_ hS1 hl)
  rw [hm_ws_arr (M := M) (M' := hm_wI M a i.toNatClampNeg (vp_nar .boolean x)) hs r1 r2 (by simp only [hm_ar, hm_wI]; rw [hm_up_eq]) (fun b hb => hm_E_same (hm_up_ne hb) rfl rfl)] at hP1
  exact hP1
theorem jv_alenI (hC : hm_C X own cc nL ret d n S) {a len : Nat} (hd : decode cc pc = .ok (.arraylength, 1)) (hs : S a = some (.inl (.int, len))) (kk : hm_U X (pc + 1) ls (.int (Int32.ofNat len) :: st) M Q) : hm_U X pc ls (.ref a :: st) M Q := by
  obtain ⟨⟨p, l, e, R, s⟩, ⟨m, args, below, meth, c⟩, ⟨dC, dI, dA, ad, A⟩, ⟨n', S', nL', cells, slots⟩⟩ := X
  obtain ⟨⟨hx, hb, -, -, hown, hts, -⟩, ⟨hA, hK, hok, hAn, -⟩, ⟨rfl, -, rfl, -, -, -, -, hr⟩⟩ := hC
  intro H locs la hP hS hl
  obtain ⟨r1, r2⟩ := hr _ _ hs
  exact va_alen hx hb hK hP (a - 1) 0 (x := hm_ar ad M a len .int) (v := Int32.ofNat len) (by rw [hm_ws_at r1 r2, hm_E_arr hs]) rfl rfl hd (kk H locs la hP hS hl)
theorem jv_alenL (hC : hm_C X own cc nL ret d n S) {a len : Nat} (hd : decode cc pc = .ok (.arraylength, 1)) (hs : S a = some (.inl (.long, len))) (kk : hm_U X (pc + 1) ls (.int (Int32.ofNat len) :: st) M Q) : hm_U X pc ls (.ref a :: st) M Q := by
  obtain ⟨⟨p, l, e, R, s⟩, ⟨m, args, below, meth, c⟩, ⟨dC, dI, dA, ad, A⟩, ⟨n', S', nL', cells, slots⟩⟩ := X
  obtain ⟨⟨hx, hb, -, -, hown, hts, -⟩, ⟨hA, hK, hok, hAn, -⟩, ⟨rfl, -, rfl, -, -, -, -, hr⟩⟩ := hC
  intro H locs la hP hS hl
  obtain ⟨r1, r2⟩ := hr _ _ hs
  exact va_alen hx hb hK hP (a - 1) 1 (x := hm_ar ad M a len .long) (v := Int32.ofNat len) (by rw [hm_ws_at r1 r2, hm_E_arr hs]) rfl rfl hd (kk H locs la hP hS hl)
end Rows3
