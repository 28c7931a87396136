/-! CHAPEL: how the reference begins a part -/
theorem part3_bad {c x : Nat} {rP : Int32 → hn → Option hn} {v1 v2 v3 : Int32} {M : hn} (h : M.1 76 8 = nI x) (h0 : 0 < x) (h2 : x < 2147483648) : B_Md_takePart_3 c rP v1 v2 v3 M = some M := by
  have g : ¬ nI x ≤ (0 : Int32) := fun z => by have := (nI_lei (b := 0) h2 (by decide)).mp z; omega
  simp only [B_Md_takePart_3, h, g, ↓reduceIte]
theorem ent_md {c : Nat} {t : Nat → Nat} {n T k f0 i : Nat} {l : List (Nat × Int32)} {M : hn} (hM : xM t n T k f0 i l M) (hi : i ≤ T) (hk : k < 4) (rP : Int32 → hn → Option hn) (v1 : Int32) :
    E_Md_takePart c rP v1 M = if stT k (kd t n (sT t n i)) then B_Md_takePart_2 c rP v1 (if kd t n (sT t n i) = 2 then 1 else 0) (fcT k (kd t n (sT t n i)) 7) M else some (hn_wI M 76 8 (nI (1 + 16 * sT t n i))) := by
  have hT := hM.T
  have hn' := hM.2.1
  have x0 : hn_ix 1002 (nI i) = true := ix_ok (by omega) (by decide)
  have c0 : (nI i).toNatClampNeg = i := nI_lt31 (by omega)
  have e78 := (hM.1.2.2.2 i hi).2.1
  have fh := factHere_ok (c := c) hM hi hk
  have tn := tok_num (n := n) (p := sT t n i) (fun h => hM.2.2.1 _ h)
  have sb := tok_so (t := t) (n := n) (p := sT t n i)
  have pb := sT_b (t := t) (n := n) i
  have s40 := hM.sg (c := c) hi (show cS 40 = true by decide)
  have w12 := hM.wd (c := c) (w := 12) hi (by decide)
  have e8 := hM.2.2.2.2.2.1
  have e7 := hM.2.2.2.2.1
  have z8 : (0 : Int32) ≤ 0 := by decide
  have z : ¬ (1 : Int32) = 0 := by decide
  have nm : ¬ (0 : Int32) ≤ -1 := by decide
  obtain ⟨x, hx⟩ : ∃ x, x = kd t n (sT t n i) := ⟨_, rfl⟩
  rw [← hx] at fh tn s40 w12 ⊢
  have s40' : F_Md_isSign c (40 : Int32) M = some (if x = 40 then 1 else 0, M) := s40
  have w12' : F_Md_isWord c (12 : Int32) M = some (if x = 140 then 1 else 0, M) := w12
  by_cases q2 : x = 2
  · have g2 : nI (so t n (sT t n i)) = (2 : Int32) := by rw [tn.mpr q2]; rfl
    have s1 : stT k x = true := by simp [stT, q2]
    have f1 : fcT k x 7 = -1 := by unfold fcT; rw [if_neg (by omega)]
    rw [f1] at fh ⊢
    rw [if_pos s1, if_pos q2]
    simp only [E_Md_takePart, B_Md_takePart_1, e8, z8, ↓reduceIte, e7, x0, hg_T, c0, e78, g2, fh, hbN_e, nm, z]
  · have g2 : ¬ nI (so t n (sT t n i)) = (2 : Int32) := nI_ni (b := 2) (by omega) (by decide) (fun y => q2 (tn.mp y))
    rw [if_neg q2]
    by_cases qf : 143 ≤ x ∧ x < 143 + 7 ∧ may k (x - 143) = true
    · have f1 : fcT k x 7 = nI (x - 143) := by unfold fcT; rw [if_pos qf]
      have s1 : stT k x = true := by
        have h1 : x ≤ 149 := by omega
        simp [stT, qf.1, h1, qf.2.2]
      have g3 : (0 : Int32) ≤ nI (x - 143) := nI_p (by omega)
      rw [f1] at fh ⊢
      rw [if_pos s1]
      simp only [E_Md_takePart, B_Md_takePart_1, e8, z8, ↓reduceIte, e7, x0, hg_T, c0, e78, g2, fh, hbN_e, g3]
    · have f1 : fcT k x 7 = -1 := by unfold fcT; rw [if_neg qf]
      rw [f1] at fh ⊢
      by_cases q40 : x = 40
      · have s1 : stT k x = true := by simp [stT, q40]
        rw [if_pos q40] at s40'
        rw [if_pos s1]
        simp only [E_Md_takePart, B_Md_takePart_1, e8, z8, ↓reduceIte, e7, x0, hg_T, c0, e78, g2, fh, hbN_e, nm, s40', z]
      · rw [if_neg q40] at s40'
        by_cases q140 : x = 140
        · have s1 : stT k x = true := by simp [stT, q140]
          rw [if_pos q140] at w12'
          rw [if_pos s1]
          simp only [E_Md_takePart, B_Md_takePart_1, e8, z8, ↓reduceIte, e7, x0, hg_T, c0, e78, g2, fh, hbN_e, nm, s40', w12', z]
        · rw [if_neg q140] at w12'
          have s1 : ¬ stT k x = true := by
            unfold stT
            simp only [Bool.or_eq_true, Bool.and_eq_true, decide_eq_true_eq]
            rintro (((y | y) | y) | ⟨⟨y1, y2⟩, y3⟩)
            · exact q2 y
            · exact q140 y
            · exact q40 y
            · exact qf ⟨y1, by omega, y3⟩
          have w : F_Md_wrong c (1 : Int32) M = some (hn_wI M 76 8 (nI (1 + 16 * sT t n i))) := wrong_ok (f := 1) hM hi
          have p3 := part3_bad (c := c) (rP := rP) (v1 := v1) (v2 := 0) (v3 := -1) (M := hn_wI M 76 8 (nI (1 + 16 * sT t n i))) wI_s (by omega) (by omega)
          rw [if_neg s1]
          simp only [E_Md_takePart, B_Md_takePart_1, e8, z8, ↓reduceIte, e7, x0, hg_T, c0, e78, g2, fh, hbN_e, nm, s40', w12', w, hvN_e, p3]
