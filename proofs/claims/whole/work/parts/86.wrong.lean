/-! CHAPEL: going wrong, in step -/
theorem wrong_ok {c : Nat} {t : Nat → Nat} {n T k f0 i f : Nat} {l : List (Nat × Int32)} {M : hn} (h : xM t n T k f0 i l M) (hi : i ≤ T) : F_Md_wrong c (nI f) M = some (hn_wI M 76 8 (nI (f + 16 * sT t n i))) := by
  have hT := h.T
  have x0 : hn_ix 1002 (nI i) = true := ix_ok (by omega) (by decide)
  have c0 : (nI i).toNatClampNeg = i := nI_lt31 (by omega)
  have e79 := (h.1.2.2.2 i hi).1
  have e : nI f + ((16 : Int32) * nI (sT t n i)) = nI (f + 16 * sT t n i) := by rw [show (16 : Int32) = nI 16 from rfl, nI_m, nI_a]
  simp only [F_Md_wrong, h.2.2.2.2.2.1, ↓reduceIte, h.2.2.2.2.1, x0, hg_T, c0, e79, e, hl_e]
theorem wrong_bad {c x : Nat} {v : Int32} {M : hn} (h : M.1 76 8 = nI x) (h0 : 0 < x) (h2 : x < 2147483648) : F_Md_wrong c v M = some M := by
  simp only [F_Md_wrong, h, bad8 h0 h2, ↓reduceIte]
theorem mk_bad {t : Nat → Nat} {n T D k e0 f0 i f : Nat} {l : List (Nat × Int32)} {N M : hn} (hP : xP t n T D k e0 i l N) (hM : xM t n T k f0 i l M) (f1 : 1 ≤ f) (f5 : f ≤ 5) : xBad t n T D e0 f0 i l.length (nI f) N (hn_wI M 76 8 (nI (f + 16 * sT t n i))) := by
  have hT := hM.T
  have hi := hP.2.1
  refine ⟨f, i, i, f0 + l.length, e0 + l.length, f1, f5, rfl, hi, hP.1.2.1, hP.1.1, hP.2.2.2.1, by omega, ?_, wI_s, ?_, hi, Nat.le_refl _, ?_, Nat.le_refl _, by omega⟩
  · have := hP.2.2.2.2.1; omega
  · rw [wI_n (by decide)]; exact hM.2.2.2.2.1
  · rw [wI_n (by decide)]; exact hM.2.2.2.2.2.2.2.1
theorem take_y {c : Nat} {t : Nat → Nat} {n T D k e0 i m : Nat} {l : List (Nat × Int32)} {N : hn} (hP : xP t n T D k e0 i l N) (hk : kd t n (sT t n i) = m) (sn : sT t n i < n) : ∃ N', F_Reader_take c (nI m) N = some (0, N') ∧ off3 N N' ∧ atK t n (i + 1) N' := by
  obtain ⟨k4, kb⟩ := hP.k4
  obtain ⟨N', d1, d2, d3⟩ := next_K (c := c) hP.1 sn
  refine ⟨N', ?_, d2, d3⟩
  rw [hk] at k4
  simp only [F_Reader_take, k4, ↓reduceIte, d1, hvN_e]
theorem take_n {c : Nat} {t : Nat → Nat} {n T D k e0 i m : Nat} {l : List (Nat × Int32)} {N : hn} (hP : xP t n T D k e0 i l N) (hm : m < 1000) (hk : kd t n (sT t n i) ≠ m) : F_Reader_take c (nI m) N = some (1, N) := by
  obtain ⟨k4, kb⟩ := hP.k4
  have g := nI_ni (show kd t n (sT t n i) < 2147483648 by omega) (show m < 2147483648 by omega) hk
  simp only [F_Reader_take, k4, g, ↓reduceIte]
theorem takeSign_y {c : Nat} {t : Nat → Nat} {n T k f0 i m : Nat} {l : List (Nat × Int32)} {M : hn} (hM : xM t n T k f0 i l M) (hi : i ≤ T) (hm : cS m = true) (hk : kd t n (sT t n i) = m) : F_Md_takeSign c (nI m) M = some (hn_wI M 76 7 (nI (i + 1))) := by
  have s := hM.sg (c := c) hi hm
  rw [if_pos hk] at s
  have z : ¬ (1 : Int32) = 0 := by decide
  simp only [F_Md_takeSign, s, hbN_e, z, ↓reduceIte, hM.2.2.2.2.1, hl_e, ← nI_succ]
theorem takeSign_n {c : Nat} {t : Nat → Nat} {n T k f0 i m : Nat} {l : List (Nat × Int32)} {M : hn} (hM : xM t n T k f0 i l M) (hi : i ≤ T) (hm : cS m = true) (hk : kd t n (sT t n i) ≠ m) : F_Md_takeSign c (nI m) M = some (hn_wI M 76 8 (nI (1 + 16 * sT t n i))) := by
  have s := hM.sg (c := c) hi hm
  rw [if_neg hk] at s
  have w : F_Md_wrong c (1 : Int32) M = some (hn_wI M 76 8 (nI (1 + 16 * sT t n i))) := wrong_ok (f := 1) hM hi
  simp only [F_Md_takeSign, s, hbN_e, ↓reduceIte, w, hvN_e]
theorem takeSign_bad {c x : Nat} {v : Int32} {M : hn} (h : M.1 76 8 = nI x) (h0 : 0 < x) (h2 : x < 2147483648) : F_Md_takeSign c v M = some M := by
  simp only [F_Md_takeSign, isSign_bad h h0 h2, hbN_e, ↓reduceIte, wrong_bad h h0 h2, hvN_e]
theorem hasWord_0 {c : Nat} {m : Int32} {M : hn} {v : Int32} (h : F_Md_isWord c m M = some (0, M)) (h7 : M.1 76 7 = v) : F_Md_hasWord c m M = some (0, hn_wI M 76 7 (v + 0)) := by
  simp only [F_Md_hasWord, B_Md_hasWord_1, h, hbN_e, ↓reduceIte, h7, hl_e, true_or, hg_T]
theorem hasWord_1 {c : Nat} {m : Int32} {M : hn} {i : Nat} (h : F_Md_isWord c m M = some (1, M)) (h7 : M.1 76 7 = nI i) : F_Md_hasWord c m M = some (1, hn_wI M 76 7 (nI (i + 1))) := by
  have z : ¬ (1 : Int32) = 0 := by decide
  simp only [F_Md_hasWord, B_Md_hasWord_1, h, hbN_e, z, ↓reduceIte, h7, hl_e, ← nI_succ, or_true, hg_T]
