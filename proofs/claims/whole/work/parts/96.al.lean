/-! CHAPEL: every line, all lines -/
theorem line_ok {c : Nat} (hc : c = 5 ∨ c = 20) {t : Nat → Nat} {n T i g p e f : Nat} {law : Law} {N M : hn} (hK : atK t n i N) (hM : bM t n T i M) (hd : dX t n (25 - c) i g p e f law N M) :
    lOut t n T (25 - c) i N M (F_Reader_readLine c N) (hvN (F_Md_readLine c M) fun M1 => F_Md_takeSign c (59 : Int32) M1) := by
  obtain ⟨k4, kb⟩ := hK.k4
  have w0 : F_Md_isWord c (0 : Int32) M = _ := hM.wd (c := c) (w := 0) (by decide)
  have w1 : F_Md_isWord c (1 : Int32) M = _ := hM.wd (c := c) (w := 1) (by decide)
  have w4 : F_Md_isWord c (4 : Int32) M = _ := hM.wd (c := c) (w := 4) (by decide)
  have w11 : F_Md_isWord c (11 : Int32) M = _ := hM.wd (c := c) (w := 11) (by decide)
  have z1 : ¬ (1 : Int32) = 0 := by decide
  have ne : ∀ b, b < 1000 → kd t n (sT t n i) ≠ b → ¬ nI (kd t n (sT t n i)) = nI b := fun b hb h => nI_ni (by omega) (by omega) h
  by_cases q0 : kd t n (sT t n i) = 128
  · rw [if_pos q0] at w0
    have e4 : N.1 3 4 = (128 : Int32) := by rw [k4, q0]; rfl
    obtain ⟨r, N', M', a1, a2, a3⟩ := lfloor_ok hc hK hM hd q0
    refine ⟨r, N', M', ?_, ?_, a3⟩
    · simp only [F_Reader_readLine, e4, hl_e, ↓reduceIte, a1, hbN_e]
    · rw [← a2]
      simp only [F_Md_readLine, w0, hbN_e, z1, ↓reduceIte]
      cases F_Md_readFloor c M <;> rfl
  · rw [if_neg q0] at w0
    have n0 : ¬ nI (kd t n (sT t n i)) = (128 : Int32) := ne 128 (by omega) q0
    by_cases q1 : kd t n (sT t n i) = 129
    · rw [if_pos q1] at w1
      have e4 : N.1 3 4 = (129 : Int32) := by rw [k4, q1]; rfl
      have n0' : ¬ (129 : Int32) = 128 := by decide
      obtain ⟨r, N', M', a1, a2, a3⟩ := lguild_ok hc hK hM hd q1
      refine ⟨r, N', M', ?_, ?_, a3⟩
      · simp only [F_Reader_readLine, e4, hl_e, n0', ↓reduceIte, a1, hbN_e]
      · rw [← a2]
        simp only [F_Md_readLine, w0, w1, hbN_e, z1, ↓reduceIte]
        cases F_Md_readGuild c M <;> rfl
    · rw [if_neg q1] at w1
      have n1 : ¬ nI (kd t n (sT t n i)) = (129 : Int32) := ne 129 (by omega) q1
      by_cases q4 : kd t n (sT t n i) = 132
      · rw [if_pos q4] at w4
        have e4 : N.1 3 4 = (132 : Int32) := by rw [k4, q4]; rfl
        have n0' : ¬ (132 : Int32) = 128 := by decide
        have n1' : ¬ (132 : Int32) = 129 := by decide
        obtain ⟨r, N', M', a1, a2, a3⟩ := lpane_ok hc hK hM hd q4
        refine ⟨r, N', M', ?_, ?_, a3⟩
        · simp only [F_Reader_readLine, e4, hl_e, n0', n1', ↓reduceIte, a1, hbN_e]
        · rw [← a2]
          simp only [F_Md_readLine, w0, w1, w4, hbN_e, z1, ↓reduceIte]
          cases F_Md_readPane c M <;> rfl
      · rw [if_neg q4] at w4
        have n4 : ¬ nI (kd t n (sT t n i)) = (132 : Int32) := ne 132 (by omega) q4
        by_cases q11 : kd t n (sT t n i) = 139
        · rw [if_pos q11] at w11
          have e4 : N.1 3 4 = (139 : Int32) := by rw [k4, q11]; rfl
          have m1 : ¬ (139 : Int32) = 128 := by decide
          have m2 : ¬ (139 : Int32) = 129 := by decide
          have m3 : ¬ (139 : Int32) = 132 := by decide
          have m4 : ¬ (139 : Int32) = 135 := by decide
          have m5 : ¬ (139 : Int32) = 136 := by decide
          have m6 : ¬ (139 : Int32) = 137 := by decide
          have m7 : ¬ (139 : Int32) = 138 := by decide
          obtain ⟨r, N', M', a1, a2, a3⟩ := cloud_ok hc hK hM hd q11
          refine ⟨r, N', M', ?_, ?_, a3⟩
          · simp only [F_Reader_readLine, e4, hl_e, m1, m2, m3, m4, m5, m6, m7, ↓reduceIte, a1, hbN_e]
          · rw [← a2]
            simp only [F_Md_readLine, w0, w1, w4, w11, hbN_e, z1, ↓reduceIte]
            cases F_Md_readCloud c M <;> rfl
        · rw [if_neg q11] at w11
          have n11 : ¬ nI (kd t n (sT t n i)) = (139 : Int32) := ne 139 (by omega) q11
          have mL : (hvN (F_Md_readLine c M) fun M1 => F_Md_takeSign c (59 : Int32) M1) = (hvN (F_Md_readLaw c M) fun M1 => F_Md_takeSign c (59 : Int32) M1) := by
            simp only [F_Md_readLine, w0, w1, w4, w11, hbN_e, ↓reduceIte]
            cases F_Md_readLaw c M <;> rfl
          rw [mL]
          by_cases ql : 135 ≤ kd t n (sT t n i) ∧ kd t n (sT t n i) ≤ 138
          · obtain ⟨k, hk⟩ : ∃ k, kd t n (sT t n i) = 135 + k := ⟨kd t n (sT t n i) - 135, by omega⟩
            obtain ⟨r, N', M', a1, a2, a3⟩ := law_ok hc hK hM hd hk (by omega)
            refine ⟨r, N', M', ?_, a2, a3⟩
            have b1 : B_Reader_readLine_1 c N = some (r, N') := by simp only [B_Reader_readLine_1, a1, hbN_e]
            have k' : k = 0 ∨ k = 1 ∨ k = 2 ∨ k = 3 := by omega
            rw [hk] at n0 n1 n4 k4
            rcases k' with rfl | rfl | rfl | rfl
            · have e4 : N.1 3 4 = (135 : Int32) := k4
              have n0' : ¬ (135 : Int32) = 128 := by decide
              have n1' : ¬ (135 : Int32) = 129 := by decide
              have n2' : ¬ (135 : Int32) = 132 := by decide
              simp only [F_Reader_readLine, e4, hl_e, n0', n1', n2', ↓reduceIte, b1]
            · have e4 : N.1 3 4 = (136 : Int32) := k4
              have n0' : ¬ (136 : Int32) = 128 := by decide
              have n1' : ¬ (136 : Int32) = 129 := by decide
              have n2' : ¬ (136 : Int32) = 132 := by decide
              have n3' : ¬ (136 : Int32) = 135 := by decide
              simp only [F_Reader_readLine, e4, hl_e, n0', n1', n2', n3', ↓reduceIte, b1]
            · have e4 : N.1 3 4 = (137 : Int32) := k4
              have n0' : ¬ (137 : Int32) = 128 := by decide
              have n1' : ¬ (137 : Int32) = 129 := by decide
              have n2' : ¬ (137 : Int32) = 132 := by decide
              have n3' : ¬ (137 : Int32) = 135 := by decide
              have n4' : ¬ (137 : Int32) = 136 := by decide
              simp only [F_Reader_readLine, e4, hl_e, n0', n1', n2', n3', n4', ↓reduceIte, b1]
            · have e4 : N.1 3 4 = (138 : Int32) := k4
              have n0' : ¬ (138 : Int32) = 128 := by decide
              have n1' : ¬ (138 : Int32) = 129 := by decide
              have n2' : ¬ (138 : Int32) = 132 := by decide
              have n3' : ¬ (138 : Int32) = 135 := by decide
              have n4' : ¬ (138 : Int32) = 136 := by decide
              have n5' : ¬ (138 : Int32) = 137 := by decide
              simp only [F_Reader_readLine, e4, hl_e, n0', n1', n2', n3', n4', n5', ↓reduceIte, b1]
          · obtain ⟨M', a1, a2, a3⟩ := noline_ok (c := c) hM ql
            have n5 : ¬ nI (kd t n (sT t n i)) = (135 : Int32) := ne 135 (by omega) (by omega)
            have n6 : ¬ nI (kd t n (sT t n i)) = (136 : Int32) := ne 136 (by omega) (by omega)
            have n7 : ¬ nI (kd t n (sT t n i)) = (137 : Int32) := ne 137 (by omega) (by omega)
            have n8 : ¬ nI (kd t n (sT t n i)) = (138 : Int32) := ne 138 (by omega) (by omega)
            refine ⟨1, N, M', ?_, a1, fr.refl, a2, Or.inr ⟨1, i, by omega, by omega, rfl, hM.2.2.2.2.2.2, hK.2.1, a3⟩⟩
            simp only [F_Reader_readLine, k4, hl_e, n0, n1, n4, n5, n6, n7, n8, n11, ↓reduceIte]
theorem lines_ok {c : Nat} (hc : c = 5 ∨ c = 20) {t : Nat → Nat} {n T : Nat} : ∀ (m i v nA nB : Nat) (N M : hn), T - i ≤ m → m + 1 < nA → m + 1 < nB → v ≤ i → atK t n i N → bM t n T i M → (∃ g p e f law, dX t n (25 - c) i g p e f law N M) →
    ∃ r N' M', F_Reader_readAll_1 c nA (0 : Int32) (nI v) N = B_Reader_readAll_2 c r N' ∧ F_Md_chapel_3 c nB M = B_Md_chapel_4 c M' ∧ fr (PS (25 - c)) (PL (25 - c)) N N' ∧ fr MS ML M M' ∧
      ((r = 0 ∧ M'.1 76 8 = 0 ∧ ∃ i' g p e f law, i' ≤ 1000 ∧ dX t n (25 - c) i' g p e f law N' M') ∨ lBad t n T r N' M') := by
  intro m
  induction m with
  | zero =>
    intro i v nA nB N M hm hA hB hv hK hM hd
    obtain ⟨nA, rfl⟩ : ∃ x, nA = x + 1 := ⟨nA - 1, by omega⟩
    obtain ⟨nB, rfl⟩ : ∃ x, nB = x + 1 := ⟨nB - 1, by omega⟩
    have hT := hM.T
    have hi := hM.2.2.2.2.2.2
    have iT : i = T := by omega
    obtain ⟨g, p, e, f, law, hd⟩ := hd
    have k1 : kd t n (sT t n i) = 1 := by rw [iT, hM.1.2.1]; unfold kd; rw [if_pos (Nat.le_refl _)]
    have e4 : N.1 3 4 = (1 : Int32) := by rw [hK.k4.1, k1]; rfl
    have e78 : M.1 78 i = 0 := by rw [(hM.1.2.2.2 i hi).2.1, (tok_end (n := n) (p := sT t n i) (fun h => hM.2.2.1 _ h)).mpr k1]; rfl
    have gv : ¬ (1000 : Int32) < nI v := fun y => by have := (nI_lti (a := 1000) (by decide) (by omega)).mp y; omega
    have xi : hn_ix 1002 (nI i) = true := ix_ok (by omega) (by decide)
    have ci : (nI i).toNatClampNeg = i := nI_lt31 (by omega)
    refine ⟨0, N, M, ?_, ?_, fr.refl, fr.refl, Or.inl ⟨rfl, hM.2.2.2.2.2.1, i, g, p, e, f, law, by omega, hd⟩⟩
    · show B_Reader_readAll_1 c _ (0 : Int32) (nI v) N = _
      simp only [B_Reader_readAll_1, gv, ↓reduceIte, e4]
    · show B_Md_chapel_3 c _ M = _
      simp only [B_Md_chapel_3, hM.2.2.2.2.2.1, ↓reduceIte, hM.2.2.2.2.1, xi, hg_T, ci, e78]
  | succ m ih =>
    intro i v nA nB N M hm hA hB hv hK hM hd
    obtain ⟨nA, rfl⟩ : ∃ x, nA = x + 1 := ⟨nA - 1, by omega⟩
    obtain ⟨nB, rfl⟩ : ∃ x, nB = x + 1 := ⟨nB - 1, by omega⟩
    have hT := hM.T
    have hi := hM.2.2.2.2.2.2
    obtain ⟨g, p, e, f, law, hd⟩ := hd
    have gv : ¬ (1000 : Int32) < nI v := fun y => by have := (nI_lti (a := 1000) (by decide) (by omega)).mp y; omega
    have xi : hn_ix 1002 (nI i) = true := ix_ok (by omega) (by decide)
    have ci : (nI i).toNatClampNeg = i := nI_lt31 (by omega)
    by_cases k1 : kd t n (sT t n i) = 1
    · have e4 : N.1 3 4 = (1 : Int32) := by rw [hK.k4.1, k1]; rfl
      have e78 : M.1 78 i = 0 := by rw [(hM.1.2.2.2 i hi).2.1, (tok_end (n := n) (p := sT t n i) (fun h => hM.2.2.1 _ h)).mpr k1]; rfl
      refine ⟨0, N, M, ?_, ?_, fr.refl, fr.refl, Or.inl ⟨rfl, hM.2.2.2.2.2.1, i, g, p, e, f, law, by omega, hd⟩⟩
      · show B_Reader_readAll_1 c _ (0 : Int32) (nI v) N = _
        simp only [B_Reader_readAll_1, gv, ↓reduceIte, e4]
      · show B_Md_chapel_3 c _ M = _
        simp only [B_Md_chapel_3, hM.2.2.2.2.2.1, ↓reduceIte, hM.2.2.2.2.1, xi, hg_T, ci, e78]
    · obtain ⟨k4, kb⟩ := hK.k4
      have e4 : ¬ N.1 3 4 = (1 : Int32) := by rw [k4]; exact nI_ni (b := 1) (by omega) (by decide) k1
      have sb := tok_so (t := t) (n := n) (p := sT t n i)
      have e78 : ¬ M.1 78 i = 0 := by
        rw [(hM.1.2.2.2 i hi).2.1]
        exact nI_ni (b := 0) (by omega) (by decide) (fun y => k1 ((tok_end (n := n) (p := sT t n i) (fun h => hM.2.2.1 _ h)).mp y))
      obtain ⟨r, N1, M1, a1, a2, a3, a4, a5⟩ := line_ok hc hK hM hd
      have eA : F_Reader_readAll_1 c (nA + 1) (0 : Int32) (nI v) N = F_Reader_readAll_1 c nA r (nI (v + 1)) N1 := by
        show B_Reader_readAll_1 c _ (0 : Int32) (nI v) N = _
        simp only [B_Reader_readAll_1, gv, ↓reduceIte, e4, a1, hbN_e, ← nI_succ]
        rfl
      have eB : F_Md_chapel_3 c (nB + 1) M = F_Md_chapel_3 c nB M1 := by
        show B_Md_chapel_3 c (F_Md_chapel_3 c nB) M = _
        have h1 : B_Md_chapel_3 c (F_Md_chapel_3 c nB) M = hvN (hvN (F_Md_readLine c M) fun M1 => F_Md_takeSign c (59 : Int32) M1) fun N2 => F_Md_chapel_3 c nB N2 := by
          simp only [B_Md_chapel_3, hM.2.2.2.2.2.1, ↓reduceIte, hM.2.2.2.2.1, xi, hg_T, ci, e78]
          cases F_Md_readLine c M <;> rfl
        rw [h1, a2, hvN_e]
      rw [eA, eB]
      rcases a5 with ⟨rfl, i', g', p', e', f', law', b1, b2, b3, b4⟩ | bad
      · obtain ⟨r, N', M', z1, z2, z3, z4, z5⟩ := ih i' (v + 1) nA nB N1 M1 (by omega) (by omega) (by omega) (by omega) b2 b3 ⟨g', p', e', f', law', b4⟩
        exact ⟨r, N', M', z1, z2, a3.trans z3, a4.trans z4, z5⟩
      · obtain ⟨f', i1, j1, j2, j3, j4, j5, j6⟩ := id bad
        have nz := nI_f5 j1 j2
        have sb := sT_b (t := t) (n := n) i1
        have hn' := hM.2.1
        obtain ⟨nA, rfl⟩ : ∃ x, nA = x + 1 := ⟨nA - 1, by omega⟩
        obtain ⟨nB, rfl⟩ : ∃ x, nB = x + 1 := ⟨nB - 1, by omega⟩
        refine ⟨r, N1, M1, ?_, ?_, a3, a4, Or.inr bad⟩
        · show B_Reader_readAll_1 c _ r (nI (v + 1)) N1 = _
          rw [j3]
          simp only [B_Reader_readAll_1, nz, ↓reduceIte, ite_self]
        · show B_Md_chapel_3 c _ M1 = _
          simp only [B_Md_chapel_3, j6, bad8 (show 0 < f' + 16 * sT t n i1 by omega) (by omega), ↓reduceIte]
