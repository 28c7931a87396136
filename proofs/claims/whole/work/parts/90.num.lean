/-! CHAPEL: lines, in step: the reference at a token; numbers -/
def bM (t : Nat → Nat) (n T i : Nat) (M : hn) : Prop := tkR t n T M ∧ n ≤ 1000 ∧ (∀ j, j < n → t j < 128) ∧ wordsR M ∧ M.1 76 7 = nI i ∧ M.1 76 8 = 0 ∧ i ≤ T
theorem bM.T {t : Nat → Nat} {n T i : Nat} {M : hn} (h : bM t n T i M) : T ≤ 1000 := by have := h.1.1; have := h.2.1; omega
theorem wrong_b {c : Nat} {t : Nat → Nat} {n T i f : Nat} {M : hn} (h : bM t n T i M) : F_Md_wrong c (nI f) M = some (hn_wI M 76 8 (nI (f + 16 * sT t n i))) := by
  have hT := h.T
  have hi := h.2.2.2.2.2.2
  have x0 : hn_ix 1002 (nI i) = true := ix_ok (by omega) (by decide)
  have c0 : (nI i).toNatClampNeg = i := nI_lt31 (by omega)
  have e79 := (h.1.2.2.2 i hi).1
  have e : nI f + ((16 : Int32) * nI (sT t n i)) = nI (f + 16 * sT t n i) := by rw [show (16 : Int32) = nI 16 from rfl, nI_m, nI_a]
  simp only [F_Md_wrong, h.2.2.2.2.2.1, ↓reduceIte, h.2.2.2.2.1, x0, hg_T, c0, e79, e, hl_e]
theorem tn3_bad {c x : Nat} {M : hn} (h : M.1 76 8 = nI x) (h0 : 0 < x) (h2 : x < 2147483648) : B_Md_takeNumber_3 c M = some (0, M) := by
  have g : ¬ nI x ≤ (0 : Int32) := fun z => by have := (nI_lei (b := 0) h2 (by decide)).mp z; omega
  simp only [B_Md_takeNumber_3, h, g, ↓reduceIte]
theorem takeNumber_bad {c x : Nat} {v w : Int32} {M : hn} (h : M.1 76 8 = nI x) (h0 : 0 < x) (h2 : x < 2147483648) : F_Md_takeNumber c v w M = some (0, M) := by
  simp only [F_Md_takeNumber, B_Md_takeNumber_1, h, bad8 h0 h2, ↓reduceIte]
  exact tn3_bad h h0 h2
/-- a number within bounds, or wrong on both sides -/
theorem number_ok {c : Nat} {t : Nat → Nat} {n T i lo hi : Nat} {N M : hn} (hK : atK t n i N) (hM : bM t n T i M) (hlo : lo ≤ 9999) (hhi : hi ≤ 9999) :
    (∃ a N', lo ≤ a ∧ a ≤ hi ∧ i < T ∧ F_Reader_takeNumber c (nI lo) (nI hi) N = some (0, N') ∧ off3 (hn_wI N 2 3 (nI a)) N' ∧ atK t n (i + 1) N' ∧ F_Md_takeNumber c (nI lo) (nI hi) M = some (nI a, hn_wI M 76 7 (nI (i + 1)))) ∨
    (∃ f, 1 ≤ f ∧ f ≤ 5 ∧ F_Reader_takeNumber c (nI lo) (nI hi) N = some (nI f, N) ∧ F_Md_takeNumber c (nI lo) (nI hi) M = some (0, hn_wI M 76 8 (nI (f + 16 * sT t n i)))) := by
  have hT := hM.T
  have hn' := hM.2.1
  obtain ⟨k1, -, ht, -, e7, e8, hi'⟩ := id hM
  have x0 : hn_ix 1002 (nI i) = true := ix_ok (by omega) (by decide)
  have c0 : (nI i).toNatClampNeg = i := nI_lt31 (by omega)
  have e78 := (k1.2.2.2 i hi').2.1
  have tn := tok_num (n := n) (p := sT t n i) (fun h => ht _ h)
  have sb := tok_so (t := t) (n := n) (p := sT t n i)
  have pb := sT_b (t := t) (n := n) i
  have kb := tok_kd (n := n) (p := sT t n i) (fun h => ht _ h)
  have k4 := hK.2.2.1
  by_cases q2 : kd t n (sT t n i) = 2
  · have h35 := hK.2.2.2.1 q2
    have tv : va t n (sT t n i) = nv t (sT t n i) (tE t n (sT t n i) - sT t n i) ∧ va t n (sT t n i) < 10000 := by
      rcases tok_or t n (sT t n i) (fun y => ht _ y) with y | y | y | y | y
      · obtain ⟨-, y1, -⟩ := y; omega
      · obtain ⟨-, -, -, y1, y2⟩ := y; exact ⟨y1, y2⟩
      · obtain ⟨-, y0, y1, -⟩ := y; have := cS_in y0; omega
      · obtain ⟨-, y1, -⟩ := y; omega
      · obtain ⟨-, y1, -⟩ := y; omega
    rw [← tv.1] at h35
    obtain ⟨iT, sn⟩ := tok_in k1 hi' (by omega)
    have v80 := (k1.2.2.2 i hi').2.2 iT
    generalize va t n (sT t n i) = a at h35 tv v80
    have e4 : N.1 3 4 = (2 : Int32) := by rw [k4, q2]; rfl
    have g2 : nI (so t n (sT t n i)) = (2 : Int32) := by rw [tn.mpr q2]; rfl
    have lg1 : ∀ b, b ≤ 9999 → (lg_cmp (lN a) (nI b).toInt64 < 0 ↔ a < b) := fun b hb => by rw [nI_64 (by omega), lgl, lN_lti (by omega) (by omega)]
    have lg2 : ∀ b, b ≤ 9999 → (lg_cmp (lN a) (nI b).toInt64 ≤ 0 ↔ a ≤ b) := fun b hb => by
      rw [nI_64 (by omega)]
      unfold lg_cmp
      by_cases y : a ≤ b
      · have ny : ¬ lN a > lN b := fun w => by have := (lN_lti (a := b) (b := a) (by omega) (by omega)).mp w; omega
        rw [if_neg ny]
        constructor
        · intro _; exact y
        · intro _; split <;> decide
      · have yy : lN a > lN b := (lN_lti (a := b) (b := a) (by omega) (by omega)).mpr (by omega)
        rw [if_pos yy]
        constructor
        · intro w; exact absurd w (by decide)
        · intro w; exact absurd w y
    have w4 : F_Md_wrong c (4 : Int32) M = some (hn_wI M 76 8 (nI (4 + 16 * sT t n i))) := wrong_b (f := 4) hM
    have t3 := tn3_bad (c := c) (M := hn_wI M 76 8 (nI (4 + 16 * sT t n i))) wI_s (by omega) (by omega)
    by_cases q3 : a < lo
    · right
      have c1 : nI a < nI lo := (nI_lti (by omega) (by omega)).mpr q3
      have m1 := (lg1 lo hlo).mpr q3
      refine ⟨4, by omega, by omega, ?_, ?_⟩
      · simp only [F_Reader_takeNumber, e4, ↓reduceIte, h35, c1]; rfl
      · simp only [F_Md_takeNumber, B_Md_takeNumber_1, B_Md_takeNumber_2, e8, ↓reduceIte, e7, x0, hg_T, c0, e78, g2, v80, m1, w4, hvN_e, t3]
    · have c1 : ¬ nI a < nI lo := fun y => q3 ((nI_lti (by omega) (by omega)).mp y)
      have m1 : ¬ lg_cmp (lN a) (nI lo).toInt64 < 0 := fun y => q3 ((lg1 lo hlo).mp y)
      by_cases q5 : a ≤ hi
      · left
        have c2 : nI a ≤ nI hi := (nI_lei (by omega) (by omega)).mpr q5
        have m2 := (lg2 hi hhi).mpr q5
        have hK' : atK t n i (hn_wI N 2 3 (nI a)) := by
          obtain ⟨⟨y1, y2, y3⟩, y4⟩ := hK
          refine ⟨⟨by rw [wI_o (by decide)]; exact y1, y2, fun j hj => by rw [wI_o (by decide)]; exact y3 j hj⟩, ?_⟩
          unfold atP; rw [wI_o (by decide), wI_2]; exact y4
        obtain ⟨N', d1, d2, d3⟩ := next_K (c := c) hK' sn
        have z8 : (0 : Int32) ≤ 0 := by decide
        have e8' : (hn_wI M 76 7 (nI (i + 1))).1 76 7 = nI (i + 1) := wI_s
        have ep : nI (i + 1) - (1 : Int32) = nI i := nI_pred i
        have e32 : (lN a).toInt32 = nI a := lN_32 (by omega)
        refine ⟨a, N', by omega, q5, iT, ?_, d2, d3, ?_⟩
        · simp only [F_Reader_takeNumber, e4, ↓reduceIte, h35, c1, c2, hl_e, d1, hvN_e]
        · simp only [F_Md_takeNumber, B_Md_takeNumber_1, B_Md_takeNumber_3, e8, ↓reduceIte, e7, x0, hg_T, c0, e78, g2, v80, m1, m2, z8, hl_e, ← nI_succ, e8', ep, wI_2, e32]
      · right
        have c2 : ¬ nI a ≤ nI hi := fun y => q5 ((nI_lei (by omega) (by omega)).mp y)
        have m2 : ¬ lg_cmp (lN a) (nI hi).toInt64 ≤ 0 := fun y => q5 ((lg2 hi hhi).mp y)
        refine ⟨4, by omega, by omega, ?_, ?_⟩
        · simp only [F_Reader_takeNumber, e4, ↓reduceIte, h35, c1, c2]; rfl
        · simp only [F_Md_takeNumber, B_Md_takeNumber_1, B_Md_takeNumber_2, e8, ↓reduceIte, e7, x0, hg_T, c0, e78, g2, v80, m1, m2, w4, hvN_e, t3]
  · right
    have g : ¬ nI (kd t n (sT t n i)) = (2 : Int32) := nI_ni (b := 2) (by omega) (by decide) q2
    have g2 : ¬ nI (so t n (sT t n i)) = (2 : Int32) := nI_ni (b := 2) (by omega) (by decide) (fun y => q2 (tn.mp y))
    have w1 : F_Md_wrong c (1 : Int32) M = some (hn_wI M 76 8 (nI (1 + 16 * sT t n i))) := wrong_b (f := 1) hM
    have t3 := tn3_bad (c := c) (M := hn_wI M 76 8 (nI (1 + 16 * sT t n i))) wI_s (by omega) (by omega)
    refine ⟨1, by omega, by omega, ?_, ?_⟩
    · simp only [F_Reader_takeNumber, k4, g, ↓reduceIte]; rfl
    · simp only [F_Md_takeNumber, e8, ↓reduceIte, e7, x0, hg_T, c0, e78, g2, w1, hvN_e, t3]
