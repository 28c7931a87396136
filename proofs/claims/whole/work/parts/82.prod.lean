/-! CHAPEL: products and sums, in step -/
theorem w7_M {t : Nat → Nat} {n T k f0 i : Nat} {l : List (Nat × Int32)} {M : hn} (h : xM t n T k f0 i l M) : xM t n T k f0 i l (hn_wI M 76 7 (nI i + 0)) :=
  h.step (Nat.le_refl _) (fun b hb => wI_o hb) (by rw [wI_s, Int32.add_zero]) (fun k hk => wI_n hk) rfl
theorem w7_N {t : Nat → Nat} {n T k f0 i : Nat} {l : List (Nat × Int32)} {M : hn} (h : xM t n T k f0 i l M) : xM t n T k f0 (i + 1) l (hn_wI M 76 7 (nI (i + 1))) :=
  h.step (Nat.le_succ _) (fun b hb => wI_o hb) wI_s (fun k hk => wI_n hk) rfl
theorem xM.sg {c : Nat} {t : Nat → Nat} {n T k f0 i m : Nat} {l : List (Nat × Int32)} {M : hn} (h : xM t n T k f0 i l M) (hi : i ≤ T) (hm : cS m = true) : F_Md_isSign c (nI m) M = some (if kd t n (sT t n i) = m then 1 else 0, M) :=
  isSign_ok h.1 h.2.1 h.2.2.1 h.2.2.2.2.1 h.2.2.2.2.2.1 hi hm
theorem xM.wd {c : Nat} {t : Nat → Nat} {n T k f0 i w : Nat} {l : List (Nat × Int32)} {M : hn} (h : xM t n T k f0 i l M) (hi : i ≤ T) (hw : w < 22) : F_Md_isWord c (nI w) M = some (if kd t n (sT t n i) = 128 + w then 1 else 0, M) :=
  isWord_ok h.1 h.2.1 h.2.2.1 h.2.2.2.1 h.2.2.2.2.1 h.2.2.2.2.2.1 hi hw
theorem product_ok {c : Nat} {t : Nat → Nat} {n T k e0 f0 hb : Nat} (hc : c = 5 ∨ c = 20) {rP : Int32 → hn → Option (Int32 × hn)} {mP : Int32 → hn → Option hn} {v1 : Int32} (hS : xSub t n T (25 - c) k e0 f0 hb (rP v1) (mP v1)) :
    xSub t n T (25 - c) k e0 f0 (hb + 1) (F_Reader_readProduct c rP v1) (F_Md_products c mP v1) := by
  refine row_ok (c := c) hS (by omega) (fun x => if x = 42 then some 6 else none) ?_ (BA := B_Reader_readProduct_1 c rP) (zA := fun _ _ _ _ => none) (BB := B_Md_products_1 c mP) (zB := fun _ _ => none) v1 ?_ ?_ ?_ ?_ ?_ ?_
  · intro x q h
    by_cases e : x = 42
    · rw [if_pos e] at h
      have : 6 = q := Option.some.inj h
      omega
    · rw [if_neg e] at h; exact absurd h (by simp)
  · intro K i l N v3 hP ho
    obtain ⟨k4, kb⟩ := hP.k4
    have ne : kd t n (sT t n i) ≠ 42 := fun e => by rw [if_pos e] at ho; exact absurd ho (by simp)
    have g : ¬ nI (kd t n (sT t n i)) = (42 : Int32) := nI_ni (b := 42) (by omega) (by decide) ne
    by_cases q : (1000 : Int32) ≤ v3
    · simp only [B_Reader_readProduct_1, q, ↓reduceIte]
    · simp only [B_Reader_readProduct_1, q, ↓reduceIte, k4, g]
  · intro K v3 r N hr
    by_cases q : (1000 : Int32) ≤ v3
    · simp only [B_Reader_readProduct_1, q, ↓reduceIte]
    · simp only [B_Reader_readProduct_1, q, ↓reduceIte, hr]
  · intro K i l N v3 q hP hv sn ho
    obtain ⟨k4, kb⟩ := hP.k4
    have ek : kd t n (sT t n i) = 42 := by
      by_cases e : kd t n (sT t n i) = 42
      · exact e
      · rw [if_neg e] at ho; exact absurd ho (by simp)
    rw [if_pos ek] at ho
    have eq : 6 = q := Option.some.inj ho
    subst eq
    obtain ⟨N1, d1, d2, d3⟩ := next_K (c := c) hP.1 sn
    have g : ¬ (1000 : Int32) ≤ nI v3 := nI_ge (b := 1000) hv (by decide)
    have e4 : N.1 3 4 = (42 : Int32) := by rw [k4, ek]; rfl
    refine ⟨N1, d2, d3, ?_⟩
    simp only [B_Reader_readProduct_1, g, ↓reduceIte, e4, d1, hvN_e, ← nI_succ]
    rfl
  · intro K i l M hM hi ho
    have ne : kd t n (sT t n i) ≠ 42 := fun e => by rw [if_pos e] at ho; exact absurd ho (by simp)
    have sg := hM.sg (c := c) hi (show cS 42 = true by decide)
    rw [if_neg ne] at sg
    have sg' : F_Md_isSign c (42 : Int32) M = some (0, M) := sg
    refine ⟨_, ?_, mF.w (Or.inl rfl), w7_M hM⟩
    simp only [B_Md_products_1, hasSign_0 sg' hM.2.2.2.2.1, hbN_e, ↓reduceIte]
  · intro K x i M h8 h0 h2 h7
    refine ⟨_, ?_, mF.w (Or.inl rfl), w7_same h7⟩
    simp only [B_Md_products_1, hasSign_0 (isSign_bad h8 h0 h2) h7, hbN_e, ↓reduceIte]
  · intro K i l M q hM hi ho
    have ek : kd t n (sT t n i) = 42 := by
      by_cases e : kd t n (sT t n i) = 42
      · exact e
      · rw [if_neg e] at ho; exact absurd ho (by simp)
    rw [if_pos ek] at ho
    have eq : 6 = q := Option.some.inj ho
    subst eq
    have sg := hM.sg (c := c) (Nat.le_of_lt hi) (show cS 42 = true by decide)
    rw [if_pos ek] at sg
    have sg' : F_Md_isSign c (42 : Int32) M = some (1, M) := sg
    have z : ¬ (1 : Int32) = 0 := by decide
    refine ⟨hn_wI M 76 7 (nI (i + 1)), mF.w (Or.inl rfl), w7_N hM, ?_⟩
    simp only [B_Md_products_1, hasSign_1 sg' hM.2.2.2.2.1, hbN_e, z, ↓reduceIte]
    rfl
