/-! CHAPEL: rows of and/or, in step -/
theorem all_ok {c : Nat} {t : Nat → Nat} {n T k e0 f0 hb : Nat} (hc : c = 5 ∨ c = 20) {rP : Int32 → hn → Option (Int32 × hn)} {mP : Int32 → hn → Option hn} {v1 : Int32} (hS : xSub t n T (25 - c) k e0 f0 hb (rP v1) (mP v1)) :
    xSub t n T (25 - c) k e0 f0 (hb + 3 + 1) (F_Reader_readE c rP v1) (F_Md_all c mP v1) := by
  refine row_ok (c := c) (test_ok hc hS) (by omega) (fun x => if x = 141 then some 9 else if x = 142 then some 10 else none) ?_ (BA := B_Reader_readE_1 c rP) (zA := fun _ _ _ _ => none) (BB := B_Md_all_1 c mP) (zB := fun _ _ => none) v1 ?_ ?_ ?_ ?_ ?_ ?_
  · intro x q h
    rcases op2_in h with ⟨h1, h2⟩ | ⟨-, h1, h2⟩ <;> omega
  · intro K i l N v3 hP ho
    obtain ⟨k4, kb⟩ := hP.k4
    obtain ⟨n1, n2⟩ := op2_no ho
    have g1 : ¬ nI (kd t n (sT t n i)) = (141 : Int32) := nI_ni (b := 141) (by omega) (by decide) n1
    have g2 : ¬ nI (kd t n (sT t n i)) = (142 : Int32) := nI_ni (b := 142) (by omega) (by decide) n2
    by_cases q : (1000 : Int32) ≤ v3
    · simp only [B_Reader_readE_1, q, ↓reduceIte]
    · simp only [B_Reader_readE_1, q, ↓reduceIte, k4, g1, g2]
  · intro K v3 r N hr
    by_cases q : (1000 : Int32) ≤ v3
    · simp only [B_Reader_readE_1, q, ↓reduceIte]
    · simp only [B_Reader_readE_1, q, ↓reduceIte, hr]
  · intro K i l N v3 q hP hv sn ho
    obtain ⟨k4, kb⟩ := hP.k4
    obtain ⟨N1, d1, d2, d3⟩ := next_K (c := c) hP.1 sn
    have g : ¬ (1000 : Int32) ≤ nI v3 := nI_ge (b := 1000) hv (by decide)
    refine ⟨N1, d2, d3, ?_⟩
    rcases op2_in ho with ⟨ek, rfl⟩ | ⟨-, ek, rfl⟩
    · have e4 : N.1 3 4 = (141 : Int32) := by rw [k4, ek]; rfl
      simp only [B_Reader_readE_1, B_Reader_readE_2, g, ↓reduceIte, e4, hl_e, d1, hvN_e, ← nI_succ]
      rfl
    · have e4 : N.1 3 4 = (142 : Int32) := by rw [k4, ek]; rfl
      have z : ¬ (142 : Int32) = 141 := by decide
      simp only [B_Reader_readE_1, B_Reader_readE_2, g, ↓reduceIte, e4, z, hl_e, d1, hvN_e, ← nI_succ]
      rfl
  · intro K i l M hM hi ho
    obtain ⟨n1, n2⟩ := op2_no ho
    have s1 := hM.wd (c := c) (w := 13) hi (by decide)
    have s2 := hM.wd (c := c) (w := 14) hi (by decide)
    rw [if_neg n1] at s1
    rw [if_neg n2] at s2
    have s1' : F_Md_isWord c (13 : Int32) M = some (0, M) := s1
    have s2' : F_Md_isWord c (14 : Int32) M = some (0, M) := s2
    refine ⟨M, ?_, mF.refl, hM⟩
    simp only [B_Md_all_1, s1', s2', hbN_e, ↓reduceIte]
  · intro K x i M h8 h0 h2 h7
    refine ⟨M, ?_, mF.refl, fun _ => rfl⟩
    simp only [B_Md_all_1, isWord_bad h8 h0 h2, hbN_e, ↓reduceIte]
  · intro K i l M q hM hi ho
    have s1 := hM.wd (c := c) (w := 13) (Nat.le_of_lt hi) (by decide)
    have s2 := hM.wd (c := c) (w := 14) (Nat.le_of_lt hi) (by decide)
    have z : ¬ (1 : Int32) = 0 := by decide
    have e7 := hM.2.2.2.2.1
    refine ⟨hn_wI M 76 7 (nI (i + 1)), mF.w (Or.inl rfl), w7_N hM, ?_⟩
    rcases op2_in ho with ⟨ek, rfl⟩ | ⟨nk, ek, rfl⟩
    · rw [if_pos ek] at s1
      have s1' : F_Md_isWord c (13 : Int32) M = some (1, M) := s1
      simp only [B_Md_all_1, B_Md_all_2, B_Md_all_3, s1', hbN_e, z, ↓reduceIte, e7, hl_e, ← nI_succ]
      rfl
    · rw [if_neg nk] at s1
      rw [if_pos ek] at s2
      have s1' : F_Md_isWord c (13 : Int32) M = some (0, M) := s1
      have s2' : F_Md_isWord c (14 : Int32) M = some (1, M) := s2
      simp only [B_Md_all_1, B_Md_all_2, B_Md_all_3, s1', s2', hbN_e, z, ↓reduceIte, e7, hl_e, ← nI_succ]
      rfl
