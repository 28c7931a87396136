/-! CHAPEL: names -/
theorem isName_3 {c : Nat} {M : hn} {v : Int32} (hv : v = 0) : F_Md_isName_3 c hN v (0 : Int32) M = some (0, M) := by
  refine it_wp (B := B_Md_isName_3 c) (z := fun _ _ _ => none) (fun K j (v : Int32) => K v (nI j) M) 15
    (fun _ v => v = 0) (Q := fun y => y = some (0, M)) ?_ ?_ (n := hN) (k := 0) (Nat.zero_le _) (hN_big (by omega)) hv
  · intro K v hv
    have g : (15 : Int32) ≤ nI 15 := by decide
    simp only [B_Md_isName_3, g, ↓reduceIte, hv, true_or, hg_T]
  · intro K j v hj hv
    right
    have g : ¬ (15 : Int32) ≤ nI j := nI_ge (b := 15) hj (by decide)
    exact ⟨0, rfl, by simp only [B_Md_isName_3, B_Md_isName_4, B_Md_isName_5, g, ↓reduceIte, hv, ← nI_succ]⟩
theorem isName_ok {c : Nat} {t : Nat → Nat} {n T i : Nat} {M : hn} (hM : bM t n T i M) : F_Md_isName c M = some (if 143 ≤ kd t n (sT t n i) then 1 else 0, M) := by
  have hT := hM.T
  obtain ⟨k1, hn', ht, hw, e7, e8, hi'⟩ := id hM
  have x0 : hn_ix 1002 (nI i) = true := ix_ok (by omega) (by decide)
  have c0 : (nI i).toNatClampNeg = i := nI_lt31 (by omega)
  have e78 := (k1.2.2.2 i hi').2.1
  have tw := tok_wd (n := n) (p := sT t n i) (fun h => ht _ h)
  have sb := tok_so (t := t) (n := n) (p := sT t n i)
  by_cases q : 128 ≤ kd t n (sT t n i)
  · have g1 : nI (so t n (sT t n i)) = (1 : Int32) := by rw [tw.mpr q]; rfl
    have iT := (tok_in k1 hi' (by omega)).1
    have v80 := (k1.2.2.2 i hi').2.2 iT
    have ts : ∀ w, w < 22 → (lg_cmp (lN (va t n (sT t n i))) (lN (wordS w)) = 0 ↔ kd t n (sT t n i) = 128 + w) := fun w hw' => by
      rw [lgc, ← tok_word (n := n) (p := sT t n i) (fun h => ht _ h) hw']
      exact ⟨fun y => ⟨tw.mpr q, y⟩, fun y => y.2⟩
    simp only [F_Md_isName, B_Md_isName_2, e8, ↓reduceIte, e7, x0, hg_T, c0, e78, g1]
    obtain ⟨x, hx⟩ : ∃ x, x = kd t n (sT t n i) := ⟨_, rfl⟩
    rw [← hx] at q ts ⊢
    refine it_wp (B := B_Md_isName_3 c) (z := fun _ _ _ => none) (fun K j (v : Int32) => K v (nI j) M) 15
      (fun j v => v = if 128 + j ≤ x then 1 else 0) (Q := fun y => y = some (if 143 ≤ x then 1 else 0, M)) ?_ ?_ (n := hN) (k := 0) (Nat.zero_le _) (hN_big (by omega)) (by rw [if_pos (by omega)])
    · intro K v hv
      have g : (15 : Int32) ≤ nI 15 := by decide
      by_cases y : 143 ≤ x
      · rw [if_pos (by omega)] at hv
        simp only [B_Md_isName_3, g, ↓reduceIte, hv, or_true, hg_T, y]
      · rw [if_neg (by omega)] at hv
        simp only [B_Md_isName_3, g, ↓reduceIte, hv, true_or, hg_T, y]
    · intro K j v hj hv
      right
      have g : ¬ (15 : Int32) ≤ nI j := nI_ge (b := 15) hj (by decide)
      have z : ¬ (1 : Int32) = 0 := by decide
      have x1 : hn_ix 22 (nI j) = true := ix_ok (by omega) (by decide)
      have c1 : (nI j).toNatClampNeg = j := nI_lt31 (by omega)
      by_cases y : 128 + j ≤ x
      · rw [if_pos y] at hv
        by_cases y2 : x = 128 + j
        · have g2 := (ts j (by omega)).mpr y2
          refine ⟨0, by rw [if_neg (by omega)], ?_⟩
          simp only [B_Md_isName_3, B_Md_isName_4, B_Md_isName_5, g, ↓reduceIte, hv, z, e7, x0, hg_T, c0, x1, c1, v80, hw j (by omega), g2, ← nI_succ]
        · have g2 : ¬ lg_cmp (lN (va t n (sT t n i))) (lN (wordS j)) = 0 := fun w => y2 ((ts j (by omega)).mp w)
          refine ⟨1, by rw [if_pos (by omega)], ?_⟩
          simp only [B_Md_isName_3, B_Md_isName_5, g, ↓reduceIte, hv, z, e7, x0, hg_T, c0, x1, c1, v80, hw j (by omega), g2, ← nI_succ]
      · rw [if_neg y] at hv
        refine ⟨0, by rw [if_neg (by omega)], ?_⟩
        simp only [B_Md_isName_3, B_Md_isName_4, B_Md_isName_5, g, ↓reduceIte, hv, ← nI_succ]
  · have g1 : ¬ nI (so t n (sT t n i)) = (1 : Int32) := nI_ni (b := 1) (by omega) (by decide) (fun y => q (tw.mp y))
    rw [if_neg (by omega)]
    simp only [F_Md_isName, B_Md_isName_1, B_Md_isName_2, e8, ↓reduceIte, e7, x0, hg_T, c0, e78, g1]
    exact isName_3 rfl
