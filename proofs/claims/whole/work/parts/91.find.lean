/-! CHAPEL: which guild a name is -/
def fdx (P : Nat → Bool) : Nat → Nat → Int32
  | 0, _ => -1
  | m + 1, j => if P j then nI j else fdx P m (j + 1)
theorem fdx_or {P : Nat → Bool} : ∀ m j, fdx P m j = -1 ∨ ∃ x, j ≤ x ∧ x < j + m ∧ fdx P m j = nI x
  | 0, j => Or.inl rfl
  | m + 1, j => by
    rw [fdx]
    by_cases q : P j = true
    · rw [if_pos q]; exact Or.inr ⟨j, by omega, by omega, rfl⟩
    · rw [if_neg q]
      rcases fdx_or (P := P) m (j + 1) with h | ⟨x, h1, h2, h3⟩
      · exact Or.inl h
      · exact Or.inr ⟨x, by omega, by omega, h3⟩
theorem named_ok {c D g : Nat} {w : Int64} {N : hn} {P : Nat → Bool} (h3 : N.1 D 3 = nI g) (hg : g ≤ 6) (hp : ∀ j, j < g → (N.2 (D + 1) j = w ↔ P j = true)) : F_Chapel_guildNamed c D w N = some (fdx P g 0, N) := by
  refine it_wp (B := B_Chapel_guildNamed_1 c) (z := fun _ _ _ _ => none) (fun K j (_ : Unit) => K D w (nI j) N) g
    (fun j _ => fdx P (g - j) j = fdx P g 0) (Q := fun y => y = some (fdx P g 0, N)) ?_ ?_ (n := hN) (k := 0) (s := ()) (Nat.zero_le _) (hN_big (by omega)) rfl
  · intro K _ hv
    rw [Nat.sub_self, fdx] at hv
    have g0 : nI g ≤ nI g := (nI_lei (by omega) (by omega)).mpr (Nat.le_refl _)
    simp only [B_Chapel_guildNamed_1, h3, g0, ↓reduceIte, hv]
  · intro K j _ hj hv
    have g0 : ¬ nI g ≤ nI j := fun z => by have := (nI_lei (by omega) (by omega)).mp z; omega
    have g6 : ¬ (6 : Int32) ≤ nI j := nI_ge (b := 6) (by omega) (by decide)
    have x1 : hn_ix 6 (nI j) = true := ix_ok (by omega) (by decide)
    have c1 : (nI j).toNatClampNeg = j := nI_lt31 (by omega)
    rw [show g - j = (g - (j + 1)) + 1 by omega, fdx] at hv
    by_cases q : P j = true
    · left
      rw [if_pos q] at hv
      have e := lgc.mpr ((hp j hj).mpr q)
      rw [← hv]
      simp only [B_Chapel_guildNamed_1, h3, g0, g6, ↓reduceIte, x1, hg_T, c1, e]
    · right
      rw [if_neg q] at hv
      have e : ¬ lg_cmp (N.2 (D + 1) j) w = 0 := fun z => q ((hp j hj).mp (lgc.mp z))
      exact ⟨(), hv, by simp only [B_Chapel_guildNamed_1, h3, g0, g6, ↓reduceIte, x1, hg_T, c1, e, ← nI_succ]⟩
theorem mfind_ok {c i g : Nat} {M : hn} {P : Nat → Bool} (h7 : M.1 76 7 = nI i) (hi : i ≤ 1000) (h3 : M.1 82 83 = nI g) (hg : g ≤ 6) (hp : ∀ j, j < g → (M.2 85 j = M.2 80 i ↔ P j = true)) : F_Md_find c M = some (fdx P g 0, M) := by
  have y83 : hn_ix 160 (83 : Int32) = true := by decide
  have t83 : (83 : Int32).toNatClampNeg = 83 := rfl
  have x0 : hn_ix 1002 (nI i) = true := ix_ok (by omega) (by decide)
  have c0 : (nI i).toNatClampNeg = i := nI_lt31 (by omega)
  refine it_wp (B := B_Md_find_1 c) (z := fun _ _ => none) (fun K j (_ : Unit) => K (nI j) M) g
    (fun j _ => fdx P (g - j) j = fdx P g 0) (Q := fun y => y = some (fdx P g 0, M)) ?_ ?_ (n := hN) (k := 0) (s := ()) (Nat.zero_le _) (hN_big (by omega)) rfl
  · intro K _ hv
    rw [Nat.sub_self, fdx] at hv
    have g0 : nI g ≤ nI g := (nI_lei (by omega) (by omega)).mpr (Nat.le_refl _)
    simp only [B_Md_find_1, y83, hg_T, t83, h3, g0, ↓reduceIte, hv]
  · intro K j _ hj hv
    have g0 : ¬ nI g ≤ nI j := fun z => by have := (nI_lei (by omega) (by omega)).mp z; omega
    have x1 : hn_ix 6 (nI j) = true := ix_ok (by omega) (by decide)
    have c1 : (nI j).toNatClampNeg = j := nI_lt31 (by omega)
    rw [show g - j = (g - (j + 1)) + 1 by omega, fdx] at hv
    by_cases q : P j = true
    · left
      rw [if_pos q] at hv
      have e := lgc.mpr ((hp j hj).mpr q)
      rw [← hv]
      simp only [B_Md_find_1, y83, hg_T, t83, h3, g0, ↓reduceIte, x1, c1, h7, x0, c0, e]
    · right
      rw [if_neg q] at hv
      have e : ¬ lg_cmp (M.2 85 j) (M.2 80 i) = 0 := fun z => q ((hp j hj).mp (lgc.mp z))
      exact ⟨(), hv, by simp only [B_Md_find_1, y83, hg_T, t83, h3, g0, ↓reduceIte, x1, c1, h7, x0, c0, e, ← nI_succ]⟩
