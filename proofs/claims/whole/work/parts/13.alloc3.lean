/-! ALLOCATION: the rows with the count of cells in plain form -/
theorem hm_le_ref {n k : Nat} (h : k ≤ n) : hm_le n (.ref k) := Or.inl h
theorem hm_le_int {n : Nat} {x : Int32} : hm_le n (.int x) := trivial
theorem hm_le_long {n : Nat} {x : Int64} : hm_le n (.long x) := trivial
theorem hm_lea {v n : Nat} (h : v ≤ n) (k : Nat) : v ≤ n + k := Nat.le_add_right_of_le h
theorem hm_leb (n : Nat) {j k : Nat} (h : j ≤ k) : n + j ≤ n + k := Nat.add_le_add_left h n
theorem hm_l9 {l l2 : List hm_Sh} {K k : Nat} (h : l.length + K < 900000) (hk : l2.length + k ≤ K) : (l ++ l2).length + k < 900000 := by
  rw [List.length_append]; omega
section RowsD
variable {X0 X : hm_X} {own : String} {cc : ByteArray} {nL : Nat} {ret : Option FieldType} {d : Nat} {l : List hm_Sh} {ce sl mc ms : Nat} {pc : Nat} {ls : List (Nat × Value)} {st : List Value} {M : hm_M} {Q : State → Prop}
theorem jv_newarrW (hC : hm_CA X0 X own cc nL ret d l ce sl mc ms) (n : Nat) (hn : l.length = n) {at0 : ArrayType} {ty : FieldType} {len : Int32} {N : Nat} (l' : List hm_Sh) (hl' : l ++ [.inl (ty, N)] = l') (hM : hm_MB M n) (h9 : n + 1 < 900000) (hd : decode cc pc = .ok (.newarray at0, 2)) (hty : newarray.typeOf at0 = ty) (h4 : ty = .int ∨ ty = .long ∨ ty = .byte ∨ ty = .boolean) (harr : Cond.arrayClass ty ∈ gW) (hlen : ¬ len < 0) (hN : len.toNatClampNeg = N) (hby : N ≤ 60000)
    (hk : ce + 1 ≤ mc) (hw : sl + N ≤ ms) (hls : ∀ q ∈ ls, hm_le n q.2) (hst : ∀ v ∈ st, hm_le n v) (kk : ∀ X : hm_X, hm_CA X0 X own cc nL ret d l' (ce + 1) (sl + N) mc ms → hm_U X (pc + 2) ls (.ref (n + 1) :: st) M Q) : hm_U X pc ls (.int len :: st) M Q := by
  subst hn; subst hl'
  exact jv_newarr hC hM h9 hd hty h4 harr hlen hN hby hk hw hls hst kk
theorem jv_anewW (hC : hm_CA X0 X own cc nL ret d l ce sl mc ms) (n : Nat) (hn : l.length = n) {idx : Nat} {len : Int32} {N : Nat} (l' : List hm_Sh) (hl' : l ++ [.inl (.object "PaneSpots$Hold", N)] = l') (hM : hm_MB M n) (h9 : n + 1 < 900000) (hd : decode cc pc = .ok (.anewarray idx, 3)) (hcl : Cond.classLink own idx "PaneSpots$Hold" ∈ gW) (hlen : ¬ len < 0) (hN : len.toNatClampNeg = N) (hby : N ≤ 60000)
    (hk : ce + 1 ≤ mc) (hw : sl + N ≤ ms) (hls : ∀ q ∈ ls, hm_le n q.2) (hst : ∀ v ∈ st, hm_le n v) (kk : ∀ X : hm_X, hm_CA X0 X own cc nL ret d l' (ce + 1) (sl + N) mc ms → hm_U X (pc + 3) ls (.ref (n + 1) :: st) M Q) : hm_U X pc ls (.int len :: st) M Q := by
  subst hn; subst hl'
  exact jv_anew hC hM h9 hd hcl hlen hN hby hk hw hls hst kk
/-- what a class owes to 'new' -/
def hm_NW (own : String) (idx ci w : Nat) : Prop := hm_N ci = w ∧ ∃ (C : String) (T : u_T), vwCl[ci]? = some (C, T, hm_N ci) ∧ (∀ w ∈ u_ws C T (hm_N ci), w ∈ gW) ∧ (∀ j, j < hm_N ci → parseFieldDescriptor (T j).2.2.1 = some (hm_ty ci j)) ∧ (∀ j, j < hm_N ci → defaultValue (hm_ty ci j) = hm_fv (fun _ => 0) (fun _ _ => 0, fun _ _ => 0, fun _ _ => 0) 0 (hm_ty ci j) j) ∧ Cond.classLink own idx C ∈ gW ∧ Cond.instantiable C (hm_N ci) ∈ gW ∧ Cond.initialized C ∈ gW
theorem jv_newobjW (hC : hm_CA X0 X own cc nL ret d l ce sl mc ms) (n : Nat) (hn : l.length = n) {idx ci w : Nat} (l' : List hm_Sh) (hl' : l ++ [.inr ci] = l') (hM : hm_MB M n) (h9 : n + 1 < 900000) (hnw : hm_NW own idx ci w) (hd : decode cc pc = .ok (.new idx, 3))
    (hk : ce + 1 ≤ mc) (hw : sl + w ≤ ms) (hls : ∀ q ∈ ls, hm_le n q.2) (hst : ∀ v ∈ st, hm_le n v) (kk : ∀ X : hm_X, hm_CA X0 X own cc nL ret d l' (ce + 1) (sl + w) mc ms → hm_U X (pc + 3) ls (.ref (n + 1) :: st) M Q) : hm_U X pc ls st M Q := by
  subst hn; subst hl'
  obtain ⟨rfl, C, T, h1, h2, h3, h4, h5, h6, h7⟩ := hnw
  exact jv_newobj hC hM h9 hd h1 h2 h3 h4 h5 h6 h7 hk hw hls hst kk
theorem jv_callIW (hC : hm_CA X0 X own cc nL ret d l ce sl mc ms) (n : Nat) (hn : l.length = n) {y : MethodName} {cy : ByteArray} {nY dy np idx a k w : Nat} {l2 : List hm_Sh} (l' : List hm_Sh) (hl' : l ++ l2 = l') {M1 : hm_M} {st0 : List Value} (hk : hm_KA y cy nY dy l (l ++ l2) [.ref a] M M1 k w) (hm : hm_MM y cy nY none np) (hi : Cond.instanceMethod y ∈ gW) (hyn : y.name = "<init>") (hl0 : Cond.methodLink own idx y ∈ gW)
    (hd : decode cc pc = .ok (.invokespecial idx, 3)) (hdd : dy + 1 ≤ d) (hnp : 0 = np) (hst : st0 = .ref a :: st) (hw : (st.map fun v => v.category).sum ≤ 8) (hk1 : ce + k ≤ mc) (hw1 : sl + w ≤ ms) (hls : ∀ q ∈ ls, hm_le n q.2) (hst9 : ∀ v ∈ st, hm_le n v)
    (kk : ∀ X : hm_X, hm_CA X0 X own cc nL ret d l' (ce + k) (sl + w) mc ms → hm_U X (pc + 3) ls st M1 Q) : hm_U X pc ls st0 M Q := by
  subst hn; subst hl'
  exact jv_callI hC [] hk hm hi hyn hl0 hd hdd hnp hst hw hk1 hw1 hls hst9 kk
end RowsD
