/-! PLAIN FUNCTIONS over the memory: guards, calls, loops -/
def hg {β : Type} (c : Prop) [Decidable c] (x : Option β) : Option β := if c then x else none
def hb {α β : Type} (x : Option (α × hm_M)) (k : α → hm_M → Option β) : Option β := match x with
  | some (r, M) => k r M
  | none => none
def hv {β : Type} (x : Option hm_M) (k : hm_M → Option β) : Option β := match x with
  | some M => k M
  | none => none
def hl {α β : Type} (x : α) (k : α → β) : β := k x
def hm_it {α : Type} (F : α → α) (z : α) : Nat → α
  | 0 => z
  | n + 1 => F (hm_it F z n)
def hN : Nat := 100000
def hm_len (S : hm_S) (a : Nat) (ty : FieldType) : Nat := match S a with
  | some (.inl (t, n)) => if t = ty then n else 0
  | _ => 0
def hm_ib (S : hm_S) (a : Nat) (ty : FieldType) (i : Int32) : Bool := decide (0 ≤ i) && decide (i.toNatClampNeg < hm_len S a ty)
theorem hg_pos {β : Type} {c : Prop} [Decidable c] {x : Option β} (h : c) : hg c x = x := if_pos h
theorem hb_some' {α β : Type} {r : α} {M : hm_M} {k : α → hm_M → Option β} : hb (some (r, M)) k = k r M := rfl
theorem hv_some' {β : Type} {M : hm_M} {k : hm_M → Option β} : hv (some M) k = k M := rfl
theorem hg_some {β : Type} {c : Prop} [Decidable c] {x : Option β} {y : β} (h : hg c x = some y) : c ∧ x = some y := by
  unfold hg at h
  by_cases hc : c
  · rw [if_pos hc] at h; exact ⟨hc, h⟩
  · rw [if_neg hc] at h; cases h
theorem hb_some {α β : Type} {x : Option (α × hm_M)} {k : α → hm_M → Option β} {y : β} (h : hb x k = some y) : ∃ (r : α) (M : hm_M), x = some (r, M) ∧ k r M = some y := by
  match x, h with
  | some (r, M), h => exact ⟨r, M, rfl, h⟩
theorem hv_some {β : Type} {x : Option hm_M} {k : hm_M → Option β} {y : β} (h : hv x k = some y) : ∃ (M : hm_M), x = some M ∧ k M = some y := by
  match x, h with
  | some M, h => exact ⟨M, rfl, h⟩
theorem hl_some {α β : Type} {e : α} {k : α → Option β} {y : β} (h : hl e k = some y) : ∃ x, x = e ∧ k x = some y := ⟨e, rfl, h⟩
theorem hi_pos {β : Type} {c : Prop} [Decidable c] {a b : Option β} {y : β} (hc : c) (h : (if c then a else b) = some y) : a = some y := by rwa [if_pos hc] at h
theorem hi_neg {β : Type} {c : Prop} [Decidable c] {a b : Option β} {y : β} (hc : ¬ c) (h : (if c then a else b) = some y) : b = some y := by rwa [if_neg hc] at h
theorem hr_some {α : Type} {x r : α} {M M' : hm_M} (h : some (x, M) = some (r, M')) : x = r ∧ M = M' := by cases h; exact ⟨rfl, rfl⟩
theorem hr_somev {M M' : hm_M} (h : some M = some M') : M = M' := by cases h; rfl
theorem hm_ib_ok {S : hm_S} {a : Nat} {ty : FieldType} {i : Int32} (h : hm_ib S a ty i = true) : ∃ n, S a = some (.inl (ty, n)) ∧ vp_in i n := by
  unfold hm_ib hm_len at h
  cases hs : S a with
  | none => rw [hs] at h; simp at h
  | some q =>
    cases q with
    | inr c => rw [hs] at h; simp at h
    | inl q =>
      obtain ⟨t, n⟩ := q
      rw [hs] at h
      by_cases ht : t = ty
      · subst ht
        simp at h
        refine ⟨n, rfl, ?_⟩
        rintro (h1 | h1)
        · exact absurd h.1 (Int32.not_le.mpr h1)
        · omega
      · simp [ht] at h
theorem hz_ok {x : Int32} (h : x = 0 ∨ x = 1) : narrow .boolean (.int x) = .int x := by rcases h with rfl | rfl <;> decide
theorem hm_out {x : Int32} {c : Int} {y : Int32} (hy : y.toInt = c) (h : ¬ x = y) : x.toInt ≠ c := fun e => h (Int32.toInt_inj.mp (e.trans hy.symm))
section Rows4
variable {X : hm_X} {own : String} {cc : ByteArray} {nL : Nat} {ret : Option FieldType} {d n : Nat} {S : hm_S} {pc : Nat} {ls : List (Nat × Value)} {st : List Value} {M : hm_M} {Q : State → Prop}
theorem jv_ldcw (hC : hm_C X own cc nL ret d n S) {k : Nat} {v : Int32} (hw : Cond.constant own k v ∈ gW) (hd : decode cc pc = .ok (.ldc_w k, 3)) (kk : hm_U X (pc + 3) ls (.int v :: st) M Q) : hm_U X pc ls st M Q := by
  obtain ⟨⟨p, l, e, R, s⟩, ⟨m, args, below, meth, c⟩, ⟨dC, dI, dA, ad, A⟩, ⟨n', S', nL', cells, slots⟩⟩ := X
  obtain ⟨⟨hx, hb, -, -, hown, hts, -⟩, -, -⟩ := hC
  intro H locs la hP hS hl
  exact lv_ldcw hx hb hown (hts _ hw) hd (kk H locs la hP hS hl)
theorem jv_topI {x y : Int32} (h : y = x) (kk : hm_U X pc ls (.int y :: st) M Q) : hm_U X pc ls (.int x :: st) M Q := h ▸ kk
theorem jv_topL {x y : Int64} (h : y = x) (kk : hm_U X pc ls (.long y :: st) M Q) : hm_U X pc ls (.long x :: st) M Q := h ▸ kk
theorem jv_topR {x y : Nat} (h : y = x) (kk : hm_U X pc ls (.ref y :: st) M Q) : hm_U X pc ls (.ref x :: st) M Q := h ▸ kk
theorem jv_mem {M' : hm_M} (h : M' = M) (kk : hm_U X pc ls st M' Q) : hm_U X pc ls st M Q := h ▸ kk
/-- place and stack in plain form -/
theorem jv_nf (pc' : Nat) (st' : List Value) (h1 : pc = pc') (h2 : st = st') (kk : hm_U X pc' ls st' M Q) : hm_U X pc ls st M Q := by subst h1; subst h2; exact kk
theorem jv_pc (pc' : Nat) (h1 : pc = pc') (kk : hm_U X pc' ls st M Q) : hm_U X pc ls st M Q := by subst h1; exact kk
end Rows4
