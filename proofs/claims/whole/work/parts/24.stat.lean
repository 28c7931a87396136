/-! THE START: what the statement gives of the classes, the texts, the statics -/
theorem tb_c1 {w : Cond} (i : Nat) (h : tables_1_1[i]? = some w) : w ∈ lw_tbl := List.mem_append_right _ (have h := List.mem_of_getElem? h; (List.mem_append_left _ h))
theorem tb_c2 {w : Cond} (i : Nat) (h : tables_1_2[i]? = some w) : w ∈ lw_tbl := List.mem_append_right _ (have h := List.mem_of_getElem? h; (List.mem_append_right _ (List.mem_append_left _ h)))
theorem tb_c3 {w : Cond} (i : Nat) (h : tables_1_3[i]? = some w) : w ∈ lw_tbl := List.mem_append_right _ (have h := List.mem_of_getElem? h; (List.mem_append_right _ (List.mem_append_right _ (List.mem_append_left _ h))))
theorem tb_c4 {w : Cond} (i : Nat) (h : tables_1_4[i]? = some w) : w ∈ lw_tbl := List.mem_append_right _ (have h := List.mem_of_getElem? h; (List.mem_append_right _ (List.mem_append_right _ (List.mem_append_right _ (List.mem_append_left _ h)))))
theorem tb_c5 {w : Cond} (i : Nat) (h : tables_1_5[i]? = some w) : w ∈ lw_tbl := List.mem_append_right _ (have h := List.mem_of_getElem? h; (List.mem_append_right _ (List.mem_append_right _ (List.mem_append_right _ (List.mem_append_right _ (List.mem_append_left _ h))))))
theorem tb_gW {w : Cond} (h : w ∈ gW) : w ∈ lw_tbl := (List.mem_filter.mp h).1
theorem st_one {s : State} {args : Array Value} (hg : ∀ w ∈ gW, w.before args s = true) {C : String} {T : u_T} {N n : Nat} (hin : ∀ w ∈ u_ws C T N, w ∈ gW) (hi : Cond.instantiable C n ∈ gW) (c : Nat) (hc : vwCl[c]? = some (C, T, N)) : ∃ z : ClassId × (Nat → Nat), ∀ q, vwCl[c]? = some q → u_Kn s q.1 q.2.1 q.2.2 z.1 z.2 := by
  obtain ⟨cC, iS, h⟩ := u_known hg hin (hg _ hi)
  refine ⟨(cC, iS), fun q hq => ?_⟩
  rw [hc] at hq
  cases hq
  exact h
theorem st_cls {s : State} {args : Array Value} (hg : ∀ w ∈ gW, w.before args s = true) : ∀ c : Nat, ∃ z : ClassId × (Nat → Nat), ∀ q, vwCl[c]? = some q → u_Kn s q.1 q.2.1 q.2.2 z.1 z.2 := by
  intro c
  match c with
  | 0 => exact st_one (n := 13) hg iw_0 (gW_c1 77 rfl rfl) 0 rfl
  | 1 => exact st_one (n := 4) hg iw_1 (gW_c2 31 rfl rfl) 1 rfl
  | 2 => exact st_one (n := 6) hg iw_2 (gW_c1 239 rfl rfl) 2 rfl
  | 3 => exact st_one (n := 6) hg iw_3 (gW_c1 83 rfl rfl) 3 rfl
  | 4 => exact st_one (n := 4) hg iw_4 (gW_c1 212 rfl rfl) 4 rfl
  | 5 => exact st_one (n := 5) hg iw_5 (gW_c1 36 rfl rfl) 5 rfl
  | 6 => exact st_one (n := 5) hg iw_6 (gW_c2 51 rfl rfl) 6 rfl
  | 7 => exact st_one (n := 7) hg iw_7 (gW_c1 42 rfl rfl) 7 rfl
  | 8 => exact st_one (n := 4) hg iw_8 (gW_c2 74 rfl rfl) 8 rfl
  | 9 => exact st_one (n := 3) hg iw_9 (gW_c2 116 rfl rfl) 9 rfl
  | 10 => exact st_one (n := 4) hg iw_10 (gW_c2 95 rfl rfl) 10 rfl
  | 11 => exact st_one (n := 10) hg iw_11 (gW_c1 28 rfl rfl) 11 rfl
  | 12 => exact st_one (n := 35) hg iw_12 (gW_c5 191 rfl rfl) 12 rfl
  | k + 13 => exact ⟨(0, fun _ => 0), fun q hq => by
      have : vwCl[k + 13]? = none := List.getElem?_eq_none (by simp [vwCl])
      rw [this] at hq; cases hq⟩
theorem st_arr {s : State} {args : Array Value} {ty : FieldType} (hne : ∀ C, ty ≠ .object C) (h : (Cond.arrayClass ty).before args s = true) : ∃ cA : ClassId, ArrOfT s cA ty ∧ va_RA s cA ty := by
  obtain ⟨c, k, comp, h1, h2, h3⟩ := Cond.arrayClass_spec h
  refine ⟨c, fun n z => ⟨fun _ h => (by cases h), k, h2, comp, h3⟩, ?_⟩
  cases ty with
  | object C => exact absurd rfl (hne C)
  | _ => exact h1
theorem st_arrO {s : State} {args : Array Value} {C : String} (h : (Cond.arrayOver (.object C)).before args s = true) : ∃ cA : ClassId, ArrOfT s cA (.object C) ∧ va_RA s cA (.object C) := by
  obtain ⟨comp, c, k, h1, h2, h3, h4, h5⟩ := Cond.arrayOver_spec h
  exact ⟨c, fun n z => ⟨fun _ h => (by cases h), k, h3, comp, h4⟩, ⟨k, comp, h3, h4, h1, h5⟩⟩
theorem st_K {s : State} {args : Array Value} (hts : ∀ w ∈ lw_tbl, w.before args s = true) : ∃ (dC : Nat → ClassId) (dI : Nat → Nat → Nat) (dA : FieldType → ClassId), va_K (dC, dI) vwCl (hm_tys dA) s := by
  have hg : ∀ w ∈ gW, w.before args s = true := fun w hw => hts w (tb_gW hw)
  obtain ⟨f, hf⟩ := Classical.axiomOfChoice (st_cls hg)
  obtain ⟨cI, i1, i2⟩ := st_arr (ty := .int) (fun C h => by cases h) (hts _ (tb_c1 108 rfl))
  obtain ⟨cL, l1, l2⟩ := st_arr (ty := .long) (fun C h => by cases h) (hts _ (tb_c1 107 rfl))
  obtain ⟨cB, b1, b2⟩ := st_arr (ty := .byte) (fun C h => by cases h) (hts _ (tb_c1 75 rfl))
  obtain ⟨cZ, z1, z2⟩ := st_arr (ty := .boolean) (fun C h => by cases h) (hg _ ac_boolean)
  obtain ⟨cH, h1, h2⟩ := st_arrO (C := "PaneSpots$Hold") (hts _ (tb_c2 131 rfl))
  refine ⟨fun c => (f c).1, fun c => (f c).2, fun ty => match ty with | .int => cI | .long => cL | .byte => cB | .boolean => cZ | _ => cH, fun c q hq => hf c q hq, fun k q hq => ?_⟩
  match k, hq with
  | 0, hq => cases hq; exact ⟨i1, i2⟩
  | 1, hq => cases hq; exact ⟨l1, l2⟩
  | 2, hq => cases hq; exact ⟨b1, b2⟩
  | 3, hq => cases hq; exact ⟨z1, z2⟩
  | 4, hq => cases hq; exact ⟨h1, h2⟩
  | k + 5, hq =>
    have : (hm_tys fun ty => match ty with | .int => cI | .long => cL | .byte => cB | .boolean => cZ | _ => cH)[k + 5]? = none := List.getElem?_eq_none (by simp [hm_tys])
    rw [this] at hq; cases hq
