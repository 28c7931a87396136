/-! ALLOCATION: shapes as a list, the memory beyond it is zero -/
abbrev hm_Sh : Type := (FieldType × Nat) ⊕ Nat
def hm_sl (l : List hm_Sh) : hm_S := fun a => if a = 0 then none else l[a - 1]?
theorem hm_sl_rng {l : List hm_Sh} : ∀ a x, hm_sl l a = some x → 1 ≤ a ∧ a ≤ l.length := by
  intro a x h
  unfold hm_sl at h
  by_cases h0 : a = 0
  · rw [if_pos h0] at h; cases h
  · rw [if_neg h0] at h
    have := (List.getElem?_eq_some_iff.mp h).1
    omega
theorem hm_sl_app {l l2 : List hm_Sh} {a : Nat} {x : hm_Sh} (h : hm_sl l a = some x) : hm_sl (l ++ l2) a = some x := by
  obtain ⟨h1, h2⟩ := hm_sl_rng _ _ h
  unfold hm_sl at h ⊢
  rw [if_neg (by omega)] at h ⊢
  rw [List.getElem?_append_left (by omega)]
  exact h
theorem hm_sl_new {l l2 : List hm_Sh} {k : Nat} {x : hm_Sh} (h : l2[k]? = some x) : hm_sl (l ++ l2) (l.length + (k + 1)) = some x := by
  unfold hm_sl
  rw [if_neg (by omega), List.getElem?_append_right (by omega)]
  rw [show l.length + (k + 1) - 1 - l.length = k by omega]
  exact h
/-- references within n, zero beyond -/
def hm_MB (M : hm_M) (n : Nat) : Prop := (∀ a j, M.2.2 a j ≤ n) ∧ ∀ a, n < a → ∀ j, M.1 a j = 0 ∧ M.2.1 a j = 0 ∧ M.2.2 a j = 0
theorem hm_MB.mono {M : hm_M} {n m : Nat} (h : hm_MB M n) (hm : n ≤ m) : hm_MB M m := ⟨fun a j => Nat.le_trans (h.1 a j) hm, fun a ha j => h.2 a (by omega) j⟩
theorem hm_MB.wI {M : hm_M} {n a i : Nat} {v : Int32} (h : hm_MB M n) (ha : a ≤ n) : hm_MB (hm_wI M a i v) n := by
  refine ⟨h.1, fun b hb j => ⟨?_, (h.2 b hb j).2.1, (h.2 b hb j).2.2⟩⟩
  show hm_up M.1 a i v b j = 0
  rw [hm_up_ne (by omega)]
  exact (h.2 b hb j).1
theorem hm_MB.wL {M : hm_M} {n a i : Nat} {v : Int64} (h : hm_MB M n) (ha : a ≤ n) : hm_MB (hm_wL M a i v) n := by
  refine ⟨h.1, fun b hb j => ⟨(h.2 b hb j).1, ?_, (h.2 b hb j).2.2⟩⟩
  show hm_up M.2.1 a i v b j = 0
  rw [hm_up_ne (by omega)]
  exact (h.2 b hb j).2.1
theorem hm_MB.wR {M : hm_M} {n a i v : Nat} (h : hm_MB M n) (ha : a ≤ n) (hv : v ≤ n) : hm_MB (hm_wR M a i v) n := by
  refine ⟨fun b j => ?_, fun b hb j => ⟨(h.2 b hb j).1, (h.2 b hb j).2.1, ?_⟩⟩
  · show hm_up M.2.2 a i v b j ≤ n
    unfold hm_up
    split
    · exact hv
    · exact h.1 b j
  · show hm_up M.2.2 a i v b j = 0
    rw [hm_up_ne (by omega)]
    exact (h.2 b hb j).2.2
def hm_le (n : Nat) (v : Value) : Prop := match v with
  | .ref k => k ≤ n ∨ 900000 ≤ k
  | _ => True
/-- the addresses of what was there stay -/
def hm_ag (n : Nat) (ad ad' : Nat → Nat) : Prop := ∀ k, k ≤ n ∨ 900000 ≤ k → ad' k = ad k
theorem hm_tv_ag {n : Nat} {ad ad' : Nat → Nat} {v : Value} (h : hm_ag n ad ad') (hv : hm_le n v) : hm_tv ad' v = hm_tv ad v := by
  cases v with
  | ref k => simp only [hm_tv]; rw [h k hv]
  | _ => rfl
theorem hm_st_ag {n : Nat} {ad ad' : Nat → Nat} {st : List Value} (h : hm_ag n ad ad') (hv : ∀ v ∈ st, hm_le n v) : st.map (hm_tv ad') = st.map (hm_tv ad) := List.map_congr_left (fun v hm => hm_tv_ag h (hv v hm))
theorem hm_ls_ag {n : Nat} {ad ad' : Nat → Nat} {ls : List (Nat × Value)} (h : hm_ag n ad ad') (hv : ∀ q ∈ ls, hm_le n q.2) : ls.map (hm_lv ad') = ls.map (hm_lv ad) := List.map_congr_left (fun q hm => by unfold hm_lv; rw [hm_tv_ag h (hv q hm)])
theorem hm_St.ag {n : Nat} {ad ad' : Nat → Nat} {A : Nat → Prop} {s : State} {H : Heap} (h : hm_ag n ad ad') (hS : hm_St ad A s H) : hm_St ad' A s H := by
  have e1 : (fun i => ad' (1000000 + i)) = fun i => ad (1000000 + i) := funext fun i => h _ (Or.inr (by omega))
  have e2 : (fun i => ad' (2000000 + i)) = fun i => ad (2000000 + i) := funext fun i => h _ (Or.inr (by omega))
  have e3 : ad' 3000000 = ad 3000000 := h _ (Or.inr (by omega))
  have e4 : ad' 1000000 = ad 1000000 := h _ (Or.inr (by omega))
  have e5 : ad' 1000001 = ad 1000001 := h _ (Or.inr (by omega))
  unfold hm_St at hS ⊢
  rw [e1, e2, e3, e4, e5]
  exact hS
theorem hm_E_ag {dA : FieldType → ClassId} {n : Nat} {ad ad' : Nat → Nat} {S S' : hm_S} {M : hm_M} (h : hm_ag n ad ad') (hM : ∀ a j, M.2.2 a j ≤ n) {a : Nat} (hS : S' a = S a) : hm_E dA ad' S' M a = hm_E dA ad S M a := by
  have ho : ∀ j, hm_on ad' (M.2.2 a j) = hm_on ad (M.2.2 a j) := by
    intro j
    unfold hm_on
    rw [h _ (Or.inl (hM a j))]
  have hf : ∀ ty j, hm_fv ad' M a ty j = hm_fv ad M a ty j := by
    intro ty j
    cases ty <;> simp only [hm_fv, ho]
  have ha : ∀ k ty, hm_ar ad' M a k ty = hm_ar ad M a k ty := by
    intro k ty
    cases ty <;> simp only [hm_ar, ho]
  simp only [hm_E, hS, hm_fs, hf, ha]
theorem hm_ws_push {dA : FieldType → ClassId} {l : List hm_Sh} {x : hm_Sh} {ad : Nat → Nat} {q : Nat} {M : hm_M} (hM : hm_MB M l.length) (h9 : l.length + 1 < 900000) :
    hm_ws dA (hm_up (fun _ => ad) 0 (l.length + 1) q 0) (hm_sl (l ++ [x])) (l ++ [x]).length M = hm_ws dA ad (hm_sl l) l.length M ++ [(q, hm_E dA (hm_up (fun _ => ad) 0 (l.length + 1) q 0) (hm_sl (l ++ [x])) M (l.length + 1))] := by
  have hag : hm_ag l.length ad (hm_up (fun _ => ad) 0 (l.length + 1) q 0) := by
    intro k hk
    simp only [hm_up]
    rw [if_neg (by omega)]
  unfold hm_ws
  rw [List.length_append, List.length_singleton, List.range_succ, List.map_append, List.map_singleton]
  congr 1
  · apply List.map_congr_left
    intro j hj
    have hj := List.mem_range.mp hj
    rw [hag (j + 1) (Or.inl (by omega)), hm_E_ag hag hM.1]
    unfold hm_sl
    rw [if_neg (by omega), if_neg (by omega), List.getElem?_append_left (by omega)]
  · simp only [hm_up, and_self, if_true]
/-- X has grown out of X0 -/
def hm_Ext (X0 X : hm_X) : Prop :=
  match X0, X with
  | ((p, l, e, R, s), (m, args, below, meth, c), (dC, dI, dA, ad, A), (n, S, nL, cells, slots)), ((p', l', e', R', s'), (m', args', below', meth', c'), (dC', dI', dA', ad', A'), (n', S', nL', cells', slots')) =>
    (p' = p ∧ l' = l ∧ e' = e ∧ R' = R ∧ s' = s) ∧ (m' = m ∧ args' = args ∧ below' = below ∧ meth' = meth ∧ c' = c) ∧ (dC' = dC ∧ dI' = dI ∧ dA' = dA ∧ A' = A) ∧ nL' = nL ∧ n ≤ n' ∧ hm_ag n ad ad'
theorem hm_Ext.rf (X : hm_X) : hm_Ext X X := by
  obtain ⟨⟨p, l, e, R, s⟩, ⟨m, args, below, meth, c⟩, ⟨dC, dI, dA, ad, A⟩, ⟨n, S, nL, cells, slots⟩⟩ := X
  exact ⟨⟨rfl, rfl, rfl, rfl, rfl⟩, ⟨rfl, rfl, rfl, rfl, rfl⟩, ⟨rfl, rfl, rfl, rfl⟩, rfl, Nat.le_refl _, fun _ _ => rfl⟩
/-- the context while cells are made: ce, sl so far, mc, ms at most -/
def hm_CA (X0 X : hm_X) (own : String) (cc : ByteArray) (nL : Nat) (ret : Option FieldType) (d : Nat) (l : List hm_Sh) (ce sl mc ms : Nat) : Prop :=
  hm_C X own cc nL ret d l.length (hm_sl l) ∧ hm_Ext X0 X ∧ (match X with | ((_, _, _, R, _), _, _, (_, _, _, cells, slots)) => cells = ce ∧ slots = sl ∧ mc ≤ R.cells ∧ ms ≤ R.slots)
section RowsA
variable {X0 X : hm_X} {own : String} {cc : ByteArray} {nL : Nat} {ret : Option FieldType} {d : Nat} {l : List hm_Sh} {ce sl mc ms : Nat} {pc : Nat} {ls : List (Nat × Value)} {st : List Value} {M : hm_M} {Q : State → Prop}
theorem jv_objInit (hC : hm_C X own cc nL ret d l.length (hm_sl l)) {idx a : Nat} (hl0 : Cond.methodLink own idx objectInit ∈ gW) (hi0 : Cond.instanceMethod objectInit ∈ gW) (hc0 : Cond.code objectInit ⟨#[0xb1]⟩ 1 none ∈ gW) (hd : decode cc pc = .ok (.invokespecial idx, 3)) (h1 : 1 ≤ d) (hw : (st.map fun v => v.category).sum ≤ 8) (kk : hm_U X (pc + 3) ls st M Q) : hm_U X pc ls (.ref a :: st) M Q := by
  obtain ⟨⟨p, l', e, R, s⟩, ⟨m, args, below, meth, c⟩, ⟨dC, dI, dA, ad, A⟩, ⟨n', S', nL', cells, slots⟩⟩ := X
  obtain ⟨⟨hx, hb, -, hml, hown, hts, -⟩, -, ⟨rfl, rfl, rfl, hfr, hlo, hce, hsl, hr⟩⟩ := hC
  intro H locs la hP hS hl
  have h8 : 2 * 0 + ((st.map (hm_tv ad)).map fun v => v.category).sum ≤ 8 := hm_cat hw
  refine W.objInit hx hb hown (hts _ hl0) (hts _ hi0) (hts _ hc0) rfl (by rw [hml]; exact hl.1) rfl hd (Nat.le_trans h1 hfr) ?_ (kk H locs la hP hS hl)
  show 2 * 0 + ((st.map (hm_tv ad)).map fun v => v.category).sum + 12 ≤ R.locals
  omega
theorem hm_grow {p : Program} {la : Launch} {e : Env} {R : Room} {s : State} {m : MethodId} {args : Array Value} {below : List Frame} {meth : Method} {c : Code} {dC : Nat → ClassId} {dI : Nat → Nat → Nat} {dA : FieldType → ClassId} {ad : Nat → Nat} {A : Nat → Prop} {n' : Nat} {S' : hm_S} {nL' : Nat} {x : hm_Sh} {q w : Nat} {E : va_E}
    (hC : hm_CA X0 ((p, la, e, R, s), (m, args, below, meth, c), (dC, dI, dA, ad, A), (n', S', nL', ce, sl)) own cc nL ret d l ce sl mc ms) (h9 : l.length + 1 < 900000) (hk : ce + 1 ≤ mc) (hw : sl + w ≤ ms) (hD : va_D A (hm_ws dA ad (hm_sl l) l.length M ++ [(q, E)])) :
    hm_CA X0 ((p, la, e, R, s), (m, args, below, meth, c), (dC, dI, dA, hm_up (fun _ => ad) 0 (l.length + 1) q 0, A), (l.length + 1, hm_sl (l ++ [x]), nL', ce + 1, sl + w)) own cc nL ret d (l ++ [x]) (ce + 1) (sl + w) mc ms := by
  obtain ⟨⟨h1, ⟨hA, hK, hok, hAn, hSt⟩, ⟨rfl, rfl, rfl, hfr, hlo, hce, hsl, hr⟩⟩, hE, ⟨-, -, hmc, hms⟩⟩ := hC
  have hag : hm_ag l.length ad (hm_up (fun _ => ad) 0 (l.length + 1) q 0) := by
    intro k hk
    simp only [hm_up]
    rw [if_neg (by omega)]
  have hnew : hm_up (fun _ => ad) 0 (l.length + 1) q 0 (l.length + 1) = q := by simp [hm_up]
  have hlen : (l ++ [x]).length = l.length + 1 := by simp
  have hat : ∀ j, j < l.length → (hm_ws dA ad (hm_sl l) l.length M ++ [(q, E)])[j]? = some (ad (j + 1), hm_E dA ad (hm_sl l) M (j + 1)) := by
    intro j hj
    rw [List.getElem?_append_left (by simp [hm_ws]; exact hj)]
    simp [hm_ws, hj]
  have hlast : (hm_ws dA ad (hm_sl l) l.length M ++ [(q, E)])[l.length]? = some (q, E) := by
    rw [List.getElem?_append_right (by simp [hm_ws])]
    simp [hm_ws]
  refine ⟨⟨h1, ⟨hA, hK, ?_, ?_, hSt.ag hag⟩, ⟨rfl, rfl, hlen.symm, hfr, hlo, by omega, by omega, hm_sl_rng⟩⟩, ?_, ⟨rfl, rfl, hmc, hms⟩⟩
  · intro i j hi hj hij
    rw [hlen] at hi hj
    by_cases ei : i = l.length
    · by_cases ej : j = l.length
      · omega
      · rw [ei, hnew, hag (j + 1) (Or.inl (by omega))] at hij
        have := hD.1 l.length j _ _ hlast (hat j (by omega)) hij
        omega
    · by_cases ej : j = l.length
      · rw [ej, hnew, hag (i + 1) (Or.inl (by omega))] at hij
        have := hD.1 i l.length _ _ (hat i (by omega)) hlast hij
        omega
      · rw [hag (i + 1) (Or.inl (by omega)), hag (j + 1) (Or.inl (by omega))] at hij
        exact hok i j (by omega) (by omega) hij
  · intro i hi
    rw [hlen] at hi
    by_cases ei : i = l.length
    · rw [ei, hnew]
      exact hD.2 l.length _ hlast
    · rw [hag (i + 1) (Or.inl (by omega))]
      exact hAn i (by omega)
  · obtain ⟨⟨p0, l0, e0, R0, s0⟩, ⟨m0, args0, below0, meth0, c0⟩, ⟨dC0, dI0, dA0, ad0, A0⟩, ⟨n0, S0, nL0, cells0, slots0⟩⟩ := X0
    obtain ⟨g1, g2, g3, g4, g5, g6⟩ := hE
    exact ⟨g1, g2, g3, g4, by omega, fun k hk => (hag k (by omega)).trans (g6 k hk)⟩
theorem jv_newarr (hC : hm_CA X0 X own cc nL ret d l ce sl mc ms) (hM : hm_MB M l.length) (h9 : l.length + 1 < 900000) {at0 : ArrayType} {ty : FieldType} {len : Int32} {N : Nat} (hd : decode cc pc = .ok (.newarray at0, 2)) (hty : newarray.typeOf at0 = ty) (h4 : ty = .int ∨ ty = .long ∨ ty = .byte ∨ ty = .boolean) (harr : Cond.arrayClass ty ∈ gW) (hlen : ¬ len < 0) (hN : len.toNatClampNeg = N) (hby : N ≤ 60000)
    (hk : ce + 1 ≤ mc) (hw : sl + N ≤ ms) (hls : ∀ q ∈ ls, hm_le l.length q.2) (hst : ∀ v ∈ st, hm_le l.length v) (kk : ∀ X : hm_X, hm_CA X0 X own cc nL ret d (l ++ [.inl (ty, N)]) (ce + 1) (sl + N) mc ms → hm_U X (pc + 2) ls (.ref (l.length + 1) :: st) M Q) : hm_U X pc ls (.int len :: st) M Q := by
  obtain ⟨⟨p, l', e, R, s⟩, ⟨m, args, below, meth, c⟩, ⟨dC, dI, dA, ad, A⟩, ⟨n', S', nL', cells, slots⟩⟩ := X
  have hC0 := hC
  obtain ⟨⟨⟨hx, hb, -, hml, hown, hts, -⟩, ⟨hA, hK, hok, hAn, hSt⟩, ⟨rfl, rfl, rfl, hfr, hlo, hce, hsl, hr⟩⟩, hE, ⟨rfl, rfl, hmc, hms⟩⟩ := hC
  intro H locs la hP hS hl
  have hag : hm_ag l.length ad (hm_up (fun _ => ad) 0 (l.length + 1) 0 0) := by
    intro k hk
    simp only [hm_up]
    rw [if_neg (by omega)]
  have hcell : ∀ cA, vp_cell cA (hm_ar ad M (l.length + 1) N ty) = arrV cA N (fun _ => defaultValue ty) := by
    intro cA
    have z := hM.2 (l.length + 1) (by omega)
    rcases h4 with rfl | rfl | rfl | rfl
    all_goals
      simp only [hm_ar, vp_cell]
      congr 1
      funext j
      simp only [(z j).1, (z j).2.1]
      rfl
  have hbytes : N * componentBytes ty ≤ 536870912 := by
    have : componentBytes ty ≤ 8 := by rcases h4 with rfl | rfl | rfl | rfl <;> decide
    calc N * componentBytes ty ≤ 60000 * 8 := Nat.mul_le_mul hby this
      _ ≤ 536870912 := by decide
  refine va_newa hx hb (by rw [hty]; exact hts _ harr) hty hK hP (hm_D hok hAn) hS hA (a0 := hm_ar ad M (l.length + 1) N ty) hcell hlen hN hbytes (by omega) (by omega) hd (fun q cA H1 hK1 hP1 hD1 hS1 => ?_)
  have hcA : cA = dA ty := by
    have h1 := (hK1.2 5 (cA, ty) rfl).2
    rcases h4 with rfl | rfl | rfl | rfl
    · exact Option.some.inj ((show s.vm.findClass _ = some cA from h1).symm.trans (hK.2 0 (dA .int, .int) rfl).2)
    · exact Option.some.inj ((show s.vm.findClass _ = some cA from h1).symm.trans (hK.2 1 (dA .long, .long) rfl).2)
    · exact Option.some.inj ((show s.vm.findClass _ = some cA from h1).symm.trans (hK.2 2 (dA .byte, .byte) rfl).2)
    · exact Option.some.inj ((show s.vm.findClass _ = some cA from h1).symm.trans (hK.2 3 (dA .boolean, .boolean) rfl).2)
  subst hcA
  have hag : hm_ag l.length ad (hm_up (fun _ => ad) 0 (l.length + 1) q 0) := by
    intro k hk
    simp only [hm_up]
    rw [if_neg (by omega)]
  have hE1 : hm_E dA (hm_up (fun _ => ad) 0 (l.length + 1) q 0) (hm_sl (l ++ [.inl (ty, N)])) M (l.length + 1) = .inl (dA ty, hm_ar ad M (l.length + 1) N ty) := by
    rw [hm_E_arr (n := N) (ty := ty) (hm_sl_new (k := 0) rfl)]
    rcases h4 with rfl | rfl | rfl | rfl <;> rfl
  have hwp := hm_ws_push (dA := dA) (x := .inl (ty, N)) (ad := ad) (q := q) hM h9
  rw [hE1] at hwp
  have k2 := kk _ (hm_grow (M := M) (w := N) (x := .inl (ty, N)) (q := q) hC0 h9 hk hw hD1) H1 locs la (by
    have hlen : (l ++ [(.inl (ty, N) : hm_Sh)]).length = l.length + 1 := by simp
    rw [hlen] at hwp
    rw [hwp]; exact hP1) hS1 (by rw [hm_ls_ag hag hls]; exact hl)
  rw [List.map_cons, hm_st_ag hag hst] at k2
  have e : hm_tv (hm_up (fun _ => ad) 0 (l.length + 1) q 0) (.ref (l.length + 1)) = .ref q := by simp [hm_tv, hm_up]
  rw [e] at k2
  exact k2
theorem jv_newobj (hC : hm_CA X0 X own cc nL ret d l ce sl mc ms) (hM : hm_MB M l.length) (h9 : l.length + 1 < 900000) {idx ci : Nat} {C : String} {T : u_T} (hd : decode cc pc = .ok (.new idx, 3)) (hc : vwCl[ci]? = some (C, T, hm_N ci)) (hin : ∀ w ∈ u_ws C T (hm_N ci), w ∈ gW) (hty : ∀ j, j < hm_N ci → parseFieldDescriptor (T j).2.2.1 = some (hm_ty ci j)) (hdf : ∀ j, j < hm_N ci → defaultValue (hm_ty ci j) = hm_fv (fun _ => 0) (fun _ _ => 0, fun _ _ => 0, fun _ _ => 0) 0 (hm_ty ci j) j)
    (hcl : Cond.classLink own idx C ∈ gW) (hin1 : Cond.instantiable C (hm_N ci) ∈ gW) (hini : Cond.initialized C ∈ gW)
    (hk : ce + 1 ≤ mc) (hw : sl + hm_N ci ≤ ms) (hls : ∀ q ∈ ls, hm_le l.length q.2) (hst : ∀ v ∈ st, hm_le l.length v) (kk : ∀ X : hm_X, hm_CA X0 X own cc nL ret d (l ++ [.inr ci]) (ce + 1) (sl + hm_N ci) mc ms → hm_U X (pc + 3) ls (.ref (l.length + 1) :: st) M Q) : hm_U X pc ls st M Q := by
  obtain ⟨⟨p, l', e, R, s⟩, ⟨m, args, below, meth, c⟩, ⟨dC, dI, dA, ad, A⟩, ⟨n', S', nL', cells, slots⟩⟩ := X
  have hC0 := hC
  obtain ⟨⟨⟨hx, hb, -, hml, hown, hts, -⟩, ⟨hA, hK, hok, hAn, hSt⟩, ⟨rfl, rfl, rfl, hfr, hlo, hce, hsl, hr⟩⟩, hE, ⟨rfl, rfl, hmc, hms⟩⟩ := hC
  intro H locs la hP hS hl
  have z := hM.2 (l.length + 1) (by omega)
  have hfv : ∀ (ad' : Nat → Nat) (ty : FieldType) (j : Nat), hm_fv ad' M (l.length + 1) ty j = hm_fv (fun _ => 0) (fun _ _ => 0, fun _ _ => 0, fun _ _ => 0) 0 ty j := by
    intro ad' ty j
    cases ty <;> simp only [hm_fv, (z j).1, (z j).2.1, (z j).2.2, hm_on] <;> rfl
  refine va_new hx hb hts hin (hm_ty ci) hty hown (hts _ hcl) (hts _ hin1) (hts _ hini) hK hP (hm_D hok hAn) hS hA hc (fs := hm_fs ad M (l.length + 1) ci) (fun j hj => ?_) (by omega) (by omega) hd (fun q H1 hP1 hD1 hS1 => ?_)
  · rw [hdf j hj, vp_V, List.getD_eq_getElem?_getD, hm_fs_get hj, hfv]
    rfl
  have hag : hm_ag l.length ad (hm_up (fun _ => ad) 0 (l.length + 1) q 0) := by
    intro k hk
    simp only [hm_up]
    rw [if_neg (by omega)]
  have hE1 : hm_E dA (hm_up (fun _ => ad) 0 (l.length + 1) q 0) (hm_sl (l ++ [.inr ci])) M (l.length + 1) = .inr (ci, hm_fs ad M (l.length + 1) ci) := by
    rw [hm_E_obj (ci := ci) (hm_sl_new (k := 0) rfl)]
    simp only [hm_fs, hfv]
  have hwp := hm_ws_push (dA := dA) (x := .inr ci) (ad := ad) (q := q) hM h9
  rw [hE1] at hwp
  have k2 := kk _ (hm_grow (M := M) (w := hm_N ci) (x := .inr ci) (q := q) hC0 h9 hk hw hD1) H1 locs la (by
    have hlen : (l ++ [(.inr ci : hm_Sh)]).length = l.length + 1 := by simp
    rw [hlen] at hwp
    rw [hwp]; exact hP1) hS1 (by rw [hm_ls_ag hag hls]; exact hl)
  rw [List.map_cons, hm_st_ag hag hst] at k2
  have e : hm_tv (hm_up (fun _ => ad) 0 (l.length + 1) q 0) (.ref (l.length + 1)) = .ref q := by simp [hm_tv, hm_up]
  rw [e] at k2
  exact k2
end RowsA
