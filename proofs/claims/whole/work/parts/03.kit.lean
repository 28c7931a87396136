/-! THE MEMORY: cells by numbers (0 is null), three tables of contents; shapes apart -/
def gW : List Cond := lw_tbl.filter goodWord
theorem gW_good : GoodIn gW gW := fun w h => ⟨h, good_of_word (List.mem_filter.mp h).2⟩
theorem gW_of {w : Cond} (i : Nat) (h : lw_tbl[i]? = some w) (hg : goodWord w = true) : w ∈ gW := List.mem_filter.mpr ⟨List.mem_of_getElem? h, hg⟩
theorem gW_c1 {w : Cond} (i : Nat) (h : tables_1_1[i]? = some w) (hg : goodWord w = true) : w ∈ gW := List.mem_filter.mpr ⟨List.mem_append_right _ (have h := List.mem_of_getElem? h; (List.mem_append_left _ h)), hg⟩
theorem gW_c2 {w : Cond} (i : Nat) (h : tables_1_2[i]? = some w) (hg : goodWord w = true) : w ∈ gW := List.mem_filter.mpr ⟨List.mem_append_right _ (have h := List.mem_of_getElem? h; (List.mem_append_right _ (List.mem_append_left _ h))), hg⟩
theorem gW_c3 {w : Cond} (i : Nat) (h : tables_1_3[i]? = some w) (hg : goodWord w = true) : w ∈ gW := List.mem_filter.mpr ⟨List.mem_append_right _ (have h := List.mem_of_getElem? h; (List.mem_append_right _ (List.mem_append_right _ (List.mem_append_left _ h)))), hg⟩
theorem gW_c4 {w : Cond} (i : Nat) (h : tables_1_4[i]? = some w) (hg : goodWord w = true) : w ∈ gW := List.mem_filter.mpr ⟨List.mem_append_right _ (have h := List.mem_of_getElem? h; (List.mem_append_right _ (List.mem_append_right _ (List.mem_append_right _ (List.mem_append_left _ h))))), hg⟩
theorem gW_c5 {w : Cond} (i : Nat) (h : tables_1_5[i]? = some w) (hg : goodWord w = true) : w ∈ gW := List.mem_filter.mpr ⟨List.mem_append_right _ (have h := List.mem_of_getElem? h; (List.mem_append_right _ (List.mem_append_right _ (List.mem_append_right _ (List.mem_append_right _ (List.mem_append_left _ h)))))), hg⟩
theorem gW_c6 {w : Cond} (i : Nat) (h : tables_1_6[i]? = some w) (hg : goodWord w = true) : w ∈ gW := List.mem_filter.mpr ⟨List.mem_append_right _ (have h := List.mem_of_getElem? h; (List.mem_append_right _ (List.mem_append_right _ (List.mem_append_right _ (List.mem_append_right _ (List.mem_append_right _ (List.mem_append_left _ h))))))), hg⟩
theorem gW_c7 {w : Cond} (i : Nat) (h : tables_1_7[i]? = some w) (hg : goodWord w = true) : w ∈ gW := List.mem_filter.mpr ⟨List.mem_append_right _ (have h := List.mem_of_getElem? h; (List.mem_append_right _ (List.mem_append_right _ (List.mem_append_right _ (List.mem_append_right _ (List.mem_append_right _ (List.mem_append_right _ h))))))), hg⟩
theorem gW_pr {y : MethodName} {k : Nat} (h : (y, k) ∈ lw_privs) : Cond.selects y.cls y y ∈ gW := List.mem_filter.mpr ⟨List.mem_append_left _ (List.mem_map.mpr ⟨(y, k), h, rfl⟩), rfl⟩
theorem gW_p1 {y : MethodName} (k i : Nat) (h : lw_privs_1[i]? = some (y, k)) : Cond.selects y.cls y y ∈ gW := gW_pr (k := k) (have h := List.mem_of_getElem? h; (List.mem_append_left _ h))
theorem gW_p2 {y : MethodName} (k i : Nat) (h : lw_privs_2[i]? = some (y, k)) : Cond.selects y.cls y y ∈ gW := gW_pr (k := k) (have h := List.mem_of_getElem? h; (List.mem_append_right _ (List.mem_append_left _ h)))
theorem gW_p3 {y : MethodName} (k i : Nat) (h : lw_privs_3[i]? = some (y, k)) : Cond.selects y.cls y y ∈ gW := gW_pr (k := k) (have h := List.mem_of_getElem? h; (List.mem_append_right _ (List.mem_append_right _ (List.mem_append_left _ h))))
theorem gW_p4 {y : MethodName} (k i : Nat) (h : lw_privs_4[i]? = some (y, k)) : Cond.selects y.cls y y ∈ gW := gW_pr (k := k) (have h := List.mem_of_getElem? h; (List.mem_append_right _ (List.mem_append_right _ (List.mem_append_right _ (List.mem_append_left _ h)))))
theorem gW_p5 {y : MethodName} (k i : Nat) (h : lw_privs_5[i]? = some (y, k)) : Cond.selects y.cls y y ∈ gW := gW_pr (k := k) (have h := List.mem_of_getElem? h; (List.mem_append_right _ (List.mem_append_right _ (List.mem_append_right _ (List.mem_append_right _ (List.mem_append_left _ h))))))
theorem gW_p6 {y : MethodName} (k i : Nat) (h : lw_privs_6[i]? = some (y, k)) : Cond.selects y.cls y y ∈ gW := gW_pr (k := k) (have h := List.mem_of_getElem? h; (List.mem_append_right _ (List.mem_append_right _ (List.mem_append_right _ (List.mem_append_right _ (List.mem_append_right _ (List.mem_append_left _ h)))))))
theorem gW_p7 {y : MethodName} (k i : Nat) (h : lw_privs_7[i]? = some (y, k)) : Cond.selects y.cls y y ∈ gW := gW_pr (k := k) (have h := List.mem_of_getElem? h; (List.mem_append_right _ (List.mem_append_right _ (List.mem_append_right _ (List.mem_append_right _ (List.mem_append_right _ (List.mem_append_right _ h)))))))
theorem gW_us {C : String} {T : u_T} {N : Nat} (h : ∀ k, k < N → u_lay C T k ∈ gW) : ∀ w ∈ u_ws C T N, w ∈ gW := by
  intro w hw
  obtain ⟨k, hk, rfl⟩ := List.mem_map.mp hw
  exact h k (List.mem_range.mp hk)
abbrev hm_S : Type := Nat → Option ((FieldType × Nat) ⊕ Nat)
abbrev hm_M : Type := (Nat → Nat → Int32) × (Nat → Nat → Int64) × (Nat → Nat → Nat)
def hm_up {α : Type} (f : Nat → Nat → α) (a i : Nat) (v : α) : Nat → Nat → α := fun b j => if b = a ∧ j = i then v else f b j
def hm_wI (M : hm_M) (a i : Nat) (v : Int32) : hm_M := (hm_up M.1 a i v, M.2.1, M.2.2)
def hm_wL (M : hm_M) (a i : Nat) (v : Int64) : hm_M := (M.1, hm_up M.2.1 a i v, M.2.2)
def hm_wR (M : hm_M) (a i : Nat) (v : Nat) : hm_M := (M.1, M.2.1, hm_up M.2.2 a i v)
/-- the types of the fields of the classes, in the order of vwCl -/
def hm_ty (ci : Nat) : Nat → FieldType := match ci with
  | 0 => tyX0 | 1 => tyX1 | 2 => tyX2 | 3 => tyX3 | 4 => tyX4 | 5 => tyX5 | 6 => tyX6 | 7 => tyX7 | 8 => tyX8 | 9 => tyX9 | 10 => tyX10 | 11 => tyX11 | _ => tyX12
def hm_N (ci : Nat) : Nat := match ci with
  | 0 => 13 | 1 => 4 | 2 => 6 | 3 => 6 | 4 => 4 | 5 => 5 | 6 => 5 | 7 => 7 | 8 => 4 | 9 => 3 | 10 => 4 | 11 => 10 | _ => 35
def hm_tv (ad : Nat → Nat) (v : Value) : Value := match v with
  | .ref k => .ref (ad k)
  | v => v
theorem hm_tv_cat (ad : Nat → Nat) (v : Value) : (hm_tv ad v).category = v.category := by cases v <;> rfl
def hm_lv (ad : Nat → Nat) (q : Nat × Value) : Nat × Value := (q.1, hm_tv ad q.2)
def hm_on (ad : Nat → Nat) (r : Nat) : Option Nat := if r = 0 then none else some (ad r)
def hm_fv (ad : Nat → Nat) (M : hm_M) (a : Nat) (ty : FieldType) (j : Nat) : Value := match ty with
  | .long => .long (M.2.1 a j)
  | .object _ => va_rf (hm_on ad (M.2.2 a j))
  | .array _ => va_rf (hm_on ad (M.2.2 a j))
  | _ => .int (M.1 a j)
def hm_fs (ad : Nat → Nat) (M : hm_M) (a ci : Nat) : List Value := (List.range (hm_N ci)).map fun j => hm_fv ad M a (hm_ty ci j) j
def hm_ar (ad : Nat → Nat) (M : hm_M) (a n : Nat) (ty : FieldType) : vp_A := match ty with
  | .long => (n, .inr (.inl (M.2.1 a)))
  | .object _ => (n, .inr (.inr (.inr (.inr fun i => hm_on ad (M.2.2 a i)))))
  | _ => (n, .inl (M.1 a))
def hm_E (dA : FieldType → ClassId) (ad : Nat → Nat) (S : hm_S) (M : hm_M) (a : Nat) : va_E := match S a with
  | some (.inl (ty, n)) => .inl (dA ty, hm_ar ad M a n ty)
  | some (.inr ci) => .inr (ci, hm_fs ad M a ci)
  | none => .inr (0, [])
def hm_ws (dA : FieldType → ClassId) (ad : Nat → Nat) (S : hm_S) (n : Nat) (M : hm_M) : va_W := (List.range n).map fun j => (ad (j + 1), hm_E dA ad S M (j + 1))
def hm_tys (dA : FieldType → ClassId) : List (ClassId × FieldType) := [(dA .int, .int), (dA .long, .long), (dA .byte, .byte), (dA .boolean, .boolean), (dA (.object "PaneSpots$Hold"), .object "PaneSpots$Hold")]
theorem hm_ws_at {dA : FieldType → ClassId} {ad : Nat → Nat} {S : hm_S} {n : Nat} {M : hm_M} {a : Nat} (h1 : 1 ≤ a) (h2 : a ≤ n) : (hm_ws dA ad S n M)[a - 1]? = some (ad a, hm_E dA ad S M a) := by
  have e : a - 1 + 1 = a := by omega
  have h3 : a - 1 < n := by omega
  simp [hm_ws, h3, e]
theorem hm_ws_set {dA : FieldType → ClassId} {ad : Nat → Nat} {S : hm_S} {n : Nat} {M M' : hm_M} {a : Nat} (h1 : 1 ≤ a) (h2 : a ≤ n) (hb : ∀ b, b ≠ a → hm_E dA ad S M' b = hm_E dA ad S M b) : (hm_ws dA ad S n M).set (a - 1) (ad a, hm_E dA ad S M' a) = hm_ws dA ad S n M' := by
  apply List.ext_getElem?
  intro k
  rw [List.getElem?_set]
  by_cases hk : a - 1 = k
  · subst hk
    have e : a - 1 + 1 = a := by omega
    have h3 : a - 1 < n := by omega
    simp [hm_ws, h3, e]
  · rw [if_neg hk]
    by_cases h3 : k < n
    · simp [hm_ws, h3]
      exact (hb (k + 1) (by omega)).symm
    · simp [hm_ws, h3]
theorem hm_E_obj {dA : FieldType → ClassId} {ad : Nat → Nat} {S : hm_S} {M : hm_M} {a ci : Nat} (h : S a = some (.inr ci)) : hm_E dA ad S M a = .inr (ci, hm_fs ad M a ci) := by simp only [hm_E, h]
theorem hm_E_arr {dA : FieldType → ClassId} {ad : Nat → Nat} {S : hm_S} {M : hm_M} {a n : Nat} {ty : FieldType} (h : S a = some (.inl (ty, n))) : hm_E dA ad S M a = .inl (dA ty, hm_ar ad M a n ty) := by simp only [hm_E, h]
theorem hm_fs_get {ad : Nat → Nat} {M : hm_M} {a ci k : Nat} (h : k < hm_N ci) : (hm_fs ad M a ci)[k]? = some (hm_fv ad M a (hm_ty ci k) k) := by
  simp [hm_fs, h]
/-- contents of other cells are the same, so are the other cells -/
theorem hm_E_same {dA : FieldType → ClassId} {ad : Nat → Nat} {S : hm_S} {M M' : hm_M} {b : Nat} (h1 : M'.1 b = M.1 b) (h2 : M'.2.1 b = M.2.1 b) (h3 : M'.2.2 b = M.2.2 b) : hm_E dA ad S M' b = hm_E dA ad S M b := by
  have hf : ∀ ty j, hm_fv ad M' b ty j = hm_fv ad M b ty j := by
    intro ty j
    cases ty <;> simp only [hm_fv, h1, h2, h3]
  have ha : ∀ n ty, hm_ar ad M' b n ty = hm_ar ad M b n ty := by
    intro n ty
    cases ty <;> simp only [hm_ar, h1, h2, h3]
  simp only [hm_E, hm_fs, hf, ha]
theorem hm_up_ne {α : Type} {f : Nat → Nat → α} {a i : Nat} {v : α} {b : Nat} (h : b ≠ a) : hm_up f a i v b = f b := by
  funext j
  simp [hm_up, h]
theorem hm_up_eq {f : Nat → Nat → Int32} {a i : Nat} {v : Int32} : hm_up f a i v a = upd (f a) i v := by
  funext j
  simp [hm_up, upd]
theorem hm_up_eqL {f : Nat → Nat → Int64} {a i : Nat} {v : Int64} : hm_up f a i v a = vp_updL (f a) i v := by
  funext j
  simp [hm_up, vp_updL]
theorem hm_fs_set {ad : Nat → Nat} {M M' : hm_M} {a ci k : Nat} (hk : k < hm_N ci) (h : ∀ j, j ≠ k → hm_fv ad M' a (hm_ty ci j) j = hm_fv ad M a (hm_ty ci j) j) : (hm_fs ad M a ci).set k (hm_fv ad M' a (hm_ty ci k) k) = hm_fs ad M' a ci := by
  apply List.ext_getElem?
  intro j
  rw [List.getElem?_set]
  by_cases e : k = j
  · subst e
    simp [hm_fs, hk]
  · rw [if_neg e]
    by_cases h3 : j < hm_N ci
    · simp [hm_fs, h3]
      exact (h j (fun z => e z.symm)).symm
    · simp [hm_fs, h3]
