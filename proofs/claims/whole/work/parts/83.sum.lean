/-! CHAPEL: sums, rows of and/or, in step -/
theorem op2_in {a b p q x r : Nat} (h : (if x = a then some p else if x = b then some q else none) = some r) : (x = a ∧ r = p) ∨ (x ≠ a ∧ x = b ∧ r = q) := by
  by_cases e : x = a
  · rw [if_pos e] at h; exact Or.inl ⟨e, (Option.some.inj h).symm⟩
  · rw [if_neg e] at h
    by_cases e2 : x = b
    · rw [if_pos e2] at h; exact Or.inr ⟨e, e2, (Option.some.inj h).symm⟩
    · rw [if_neg e2] at h; exact absurd h (by simp)
theorem op2_no {a b p q x : Nat} (h : (if x = a then some p else if x = b then some q else none) = none) : x ≠ a ∧ x ≠ b := by
  by_cases e : x = a
  · rw [if_pos e] at h; exact absurd h (by simp)
  · rw [if_neg e] at h
    by_cases e2 : x = b
    · rw [if_pos e2] at h; exact absurd h (by simp)
    · exact ⟨e, e2⟩
theorem sum_ok {c : Nat} {t : Nat → Nat} {n T k e0 f0 hb : Nat} (hc : c = 5 ∨ c = 20) {rP : Int32 → hn → Option (Int32 × hn)} {mP : Int32 → hn → Option hn} {v1 : Int32} (hS : xSub t n T (25 - c) k e0 f0 hb (rP v1) (mP v1)) :
    xSub t n T (25 - c) k e0 f0 (hb + 1 + 1) (F_Reader_readSum c rP v1) (F_Md_sums c mP v1) := by
  refine row_ok (c := c) (product_ok hc hS) (by omega) (fun x => if x = 43 then some 4 else if x = 45 then some 5 else none) ?_ (BA := B_Reader_readSum_1 c rP) (zA := fun _ _ _ _ => none) (BB := B_Md_sums_1 c mP) (zB := fun _ _ => none) v1 ?_ ?_ ?_ ?_ ?_ ?_
  · intro x q h
    rcases op2_in h with ⟨h1, h2⟩ | ⟨-, h1, h2⟩ <;> omega
  · intro K i l N v3 hP ho
    obtain ⟨k4, kb⟩ := hP.k4
    obtain ⟨n1, n2⟩ := op2_no ho
    have g1 : ¬ nI (kd t n (sT t n i)) = (43 : Int32) := nI_ni (b := 43) (by omega) (by decide) n1
    have g2 : ¬ nI (kd t n (sT t n i)) = (45 : Int32) := nI_ni (b := 45) (by omega) (by decide) n2
    by_cases q : (1000 : Int32) ≤ v3
    · simp only [B_Reader_readSum_1, q, ↓reduceIte]
    · simp only [B_Reader_readSum_1, q, ↓reduceIte, k4, g1, g2]
  · intro K v3 r N hr
    by_cases q : (1000 : Int32) ≤ v3
    · simp only [B_Reader_readSum_1, q, ↓reduceIte]
    · simp only [B_Reader_readSum_1, q, ↓reduceIte, hr]
  · intro K i l N v3 q hP hv sn ho
    obtain ⟨k4, kb⟩ := hP.k4
    obtain ⟨N1, d1, d2, d3⟩ := next_K (c := c) hP.1 sn
    have g : ¬ (1000 : Int32) ≤ nI v3 := nI_ge (b := 1000) hv (by decide)
    refine ⟨N1, d2, d3, ?_⟩
    rcases op2_in ho with ⟨ek, rfl⟩ | ⟨-, ek, rfl⟩
    · have e4 : N.1 3 4 = (43 : Int32) := by rw [k4, ek]; rfl
      simp only [B_Reader_readSum_1, B_Reader_readSum_2, g, ↓reduceIte, e4, hl_e, d1, hvN_e, ← nI_succ]
      rfl
    · have e4 : N.1 3 4 = (45 : Int32) := by rw [k4, ek]; rfl
      have z : ¬ (45 : Int32) = 43 := by decide
      simp only [B_Reader_readSum_1, B_Reader_readSum_2, g, ↓reduceIte, e4, z, hl_e, d1, hvN_e, ← nI_succ]
      rfl
  · intro K i l M hM hi ho
    obtain ⟨n1, n2⟩ := op2_no ho
    have s1 := hM.sg (c := c) hi (show cS 43 = true by decide)
    have s2 := hM.sg (c := c) hi (show cS 45 = true by decide)
    rw [if_neg n1] at s1
    rw [if_neg n2] at s2
    have s1' : F_Md_isSign c (43 : Int32) M = some (0, M) := s1
    have s2' : F_Md_isSign c (45 : Int32) M = some (0, M) := s2
    refine ⟨M, ?_, mF.refl, hM⟩
    simp only [B_Md_sums_1, s1', s2', hbN_e, ↓reduceIte]
  · intro K x i M h8 h0 h2 h7
    refine ⟨M, ?_, mF.refl, fun _ => rfl⟩
    simp only [B_Md_sums_1, isSign_bad h8 h0 h2, hbN_e, ↓reduceIte]
  · intro K i l M q hM hi ho
    have s1 := hM.sg (c := c) (Nat.le_of_lt hi) (show cS 43 = true by decide)
    have s2 := hM.sg (c := c) (Nat.le_of_lt hi) (show cS 45 = true by decide)
    have z : ¬ (1 : Int32) = 0 := by decide
    have e7 := hM.2.2.2.2.1
    refine ⟨hn_wI M 76 7 (nI (i + 1)), mF.w (Or.inl rfl), w7_N hM, ?_⟩
    rcases op2_in ho with ⟨ek, rfl⟩ | ⟨nk, ek, rfl⟩
    · rw [if_pos ek] at s1
      have s1' : F_Md_isSign c (43 : Int32) M = some (1, M) := s1
      simp only [B_Md_sums_1, B_Md_sums_2, B_Md_sums_3, s1', hbN_e, z, ↓reduceIte, e7, hl_e, ← nI_succ]
      rfl
    · rw [if_neg nk] at s1
      rw [if_pos ek] at s2
      have s1' : F_Md_isSign c (43 : Int32) M = some (0, M) := s1
      have s2' : F_Md_isSign c (45 : Int32) M = some (1, M) := s2
      simp only [B_Md_sums_1, B_Md_sums_2, B_Md_sums_3, s1', s2', hbN_e, z, ↓reduceIte, e7, hl_e, ← nI_succ]
      rfl
theorem test_ok {c : Nat} {t : Nat → Nat} {n T k e0 f0 hb : Nat} (hc : c = 5 ∨ c = 20) {rP : Int32 → hn → Option (Int32 × hn)} {mP : Int32 → hn → Option hn} {v1 : Int32} (hS : xSub t n T (25 - c) k e0 f0 hb (rP v1) (mP v1)) :
    xSub t n T (25 - c) k e0 f0 (hb + 3) (F_Reader_readTest c rP v1) (F_Md_test c mP v1) := by
  have hU := sum_ok hc hS
  intro i l N M hP hM
  obtain ⟨r, N1, M1, a1, a2, a3, a4, a5⟩ := hU i l N M hP hM
  have hT := hM.T
  have hn' := hM.2.1
  rcases a5 with ⟨rfl, i', l', y1, y2, y3, y4, y5⟩ | bad
  · obtain ⟨k4, kb⟩ := y3.k4
    have hi' : i' ≤ T := y3.2.1
    have s1 := y4.sg (c := c) hi' (show cS 60 = true by decide)
    have e7 := y4.2.2.2.2.1
    have z : ¬ (1 : Int32) = 0 := by decide
    cases ho : (if kd t n (sT t n i') = 60 then some 7 else if kd t n (sT t n i') = 61 then some 8 else none : Option Nat) with
    | none =>
      obtain ⟨n1, n2⟩ := op2_no ho
      have g1 : ¬ nI (kd t n (sT t n i')) = (60 : Int32) := nI_ni (b := 60) (by omega) (by decide) n1
      have g2 : ¬ nI (kd t n (sT t n i')) = (61 : Int32) := nI_ni (b := 61) (by omega) (by decide) n2
      rw [if_neg n1] at s1
      have s1' : F_Md_isSign c (60 : Int32) M1 = some (0, M1) := s1
      have hM2 := w7_M y4
      have s2 := hM2.sg (c := c) hi' (show cS 61 = true by decide)
      rw [if_neg n2] at s2
      have s2' : F_Md_isSign c (61 : Int32) (hn_wI M1 76 7 (nI i' + 0)) = some (0, hn_wI M1 76 7 (nI i' + 0)) := s2
      refine ⟨0, N1, hn_wI (hn_wI M1 76 7 (nI i' + 0)) 76 7 (nI i' + 0), ?_, ?_, a3, (a4.trans (mF.w (Or.inl rfl))).trans (mF.w (Or.inl rfl)), Or.inl ⟨rfl, i', l', y1, y2, y3, w7_M hM2, fun h hh => y5 h (by omega)⟩⟩
      · simp only [F_Reader_readTest, a1, hbN_e, ↓reduceIte, k4, g1, g2]
      · simp only [F_Md_test, a2, hvN_e, s1', hbN_e, hasSign_0 s1' e7, ↓reduceIte, hasSign_0 s2' hM2.2.2.2.2.1]
    | some q =>
      have hk1 : kd t n (sT t n i') ≠ 1 := by rcases op2_in ho with ⟨h1, h2⟩ | ⟨-, h1, h2⟩ <;> omega
      have hq : 4 ≤ q ∧ q ≤ 10 := by rcases op2_in ho with ⟨h1, h2⟩ | ⟨-, h1, h2⟩ <;> omega
      obtain ⟨iT, sn⟩ := tok_in y4.1 hi' hk1
      obtain ⟨N2, d1, d2, d3⟩ := next_K (c := c) y3.1 sn
      have hP2 := y3.next d2 d3 iT (by omega)
      -- where the reference goes on
      have ref : ∃ M2 r3, F_Md_test c mP v1 M = B_Md_test_1 c mP v1 r3 M2 ∧ mF f0 M1 M2 ∧ xM t n T k f0 (i' + 1) (l ++ l') M2 ∧ ((q = 7 ∧ r3 = 1 ∧ N1.1 3 4 = (60 : Int32)) ∨ (q = 8 ∧ r3 = 0 ∧ N1.1 3 4 = (61 : Int32))) := by
        rcases op2_in ho with ⟨ek, rfl⟩ | ⟨nk, ek, rfl⟩
        · rw [if_pos ek] at s1
          have s1' : F_Md_isSign c (60 : Int32) M1 = some (1, M1) := s1
          refine ⟨hn_wI M1 76 7 (nI (i' + 1)), 1, ?_, mF.w (Or.inl rfl), w7_N y4, Or.inl ⟨rfl, rfl, by rw [k4, ek]; rfl⟩⟩
          simp only [F_Md_test, a2, hvN_e, s1', hbN_e, hasSign_1 s1' e7, z, ↓reduceIte]
        · rw [if_neg nk] at s1
          have s1' : F_Md_isSign c (60 : Int32) M1 = some (0, M1) := s1
          have hM2 := w7_M y4
          have s2 := hM2.sg (c := c) hi' (show cS 61 = true by decide)
          rw [if_pos ek] at s2
          have s2' : F_Md_isSign c (61 : Int32) (hn_wI M1 76 7 (nI i' + 0)) = some (1, hn_wI M1 76 7 (nI i' + 0)) := s2
          refine ⟨hn_wI (hn_wI M1 76 7 (nI i' + 0)) 76 7 (nI (i' + 1)), 0, ?_, (mF.w (Or.inl rfl)).trans (mF.w (Or.inl rfl)), w7_N hM2, Or.inr ⟨rfl, rfl, by rw [k4, ek]; rfl⟩⟩
          simp only [F_Md_test, a2, hvN_e, s1', hbN_e, hasSign_0 s1' e7, ↓reduceIte, hasSign_1 s2' hM2.2.2.2.2.1, z]
      obtain ⟨M2, r3, f1, f2, f3, f4⟩ := ref
      obtain ⟨r, N3, M3, N4, M4, p1, p2, p3, p4, p5, p6, p7⟩ := op_step (c := c) hU hP2 f3 hT (by omega) y3.2.2.2.2.1 y4.2.2.2.2.2.2.2.2.1 hq.1 hq.2
      refine ⟨r, N4, M4, ?_, ?_, (a3.trans (pF.o3 d2)).trans p5, (a4.trans f2).trans p6, ?_⟩
      · rcases f4 with ⟨rfl, -, e4⟩ | ⟨rfl, -, e4⟩
        · have p3' : F_Laws_add c ((25 - c) + 8) (-(60 : Int32)) N3 = some N4 := p3
          simp only [F_Reader_readTest, B_Reader_readTest_1, a1, hbN_e, ↓reduceIte, e4, hl_e, d1, hvN_e, p1, p3']
        · have z2 : ¬ (61 : Int32) = 60 := by decide
          have p3' : F_Laws_add c ((25 - c) + 8) (-(61 : Int32)) N3 = some N4 := p3
          simp only [F_Reader_readTest, B_Reader_readTest_1, a1, hbN_e, ↓reduceIte, e4, z2, hl_e, d1, hvN_e, p1, p3']
      · rw [f1]
        rcases f4 with ⟨rfl, rfl, -⟩ | ⟨rfl, rfl, -⟩
        · have p4' : F_Md_emit c (7 : Int32) (0 : Int32) M3 = some M4 := p4
          simp only [B_Md_test_1, B_Md_test_2, p2, hvN_e, z, ↓reduceIte, p4']
        · have p4' : F_Md_emit c (8 : Int32) (0 : Int32) M3 = some M4 := p4
          simp only [B_Md_test_1, B_Md_test_2, p2, hvN_e, ↓reduceIte, p4']
      · rcases p7 with ⟨w0, i2, l2, w1, w2, w3, w4, w5⟩ | bad
        · refine Or.inl ⟨w0, i2, l' ++ l2, by omega, by simp; omega, by rw [← List.append_assoc]; exact w3, by rw [← List.append_assoc]; exact w4, fun h hh => okL_app (y5 h (by omega)) (w5 h (by omega))⟩
        · refine Or.inr (bad.mono (by omega) (by simp) (by simp; omega))
  · have bad' := bad
    obtain ⟨f, i1, i2, g, e2, c1, c2, c3, c4, c5, c6, c7, c8, c9, c10, c11, c12, c13, c14, c15, c16⟩ := bad
    have sb := sT_b (t := t) (n := n) i1
    have r0 : ¬ r = 0 := by
      rw [c3]; intro z
      have := (nI_eqi (b := 0) (by omega) (by decide)).mp z; omega
    have s1 : ∀ v, F_Md_isSign c v M1 = some (0, M1) := fun v => isSign_bad c10 (by omega) (by omega)
    have w := w7_same c11
    have s2 : ∀ v, F_Md_isSign c v (hn_wI M1 76 7 (nI i2 + 0)) = some (0, hn_wI M1 76 7 (nI i2 + 0)) := fun v => isSign_bad (by rw [w]; exact c10) (by omega) (by omega)
    have h7 : (hn_wI M1 76 7 (nI i2 + 0)).1 76 7 = nI i2 := by rw [w]; exact c11
    refine ⟨r, N1, hn_wI (hn_wI M1 76 7 (nI i2 + 0)) 76 7 (nI i2 + 0), ?_, ?_, a3, (a4.trans (mF.w (Or.inl rfl))).trans (mF.w (Or.inl rfl)), Or.inr (bad'.off (fun k => by rw [w7_same h7 k, w k]))⟩
    · simp only [F_Reader_readTest, a1, hbN_e, r0, ↓reduceIte]
    · simp only [F_Md_test, a2, hvN_e, s1, hbN_e, hasSign_0 (s1 60) c11, ↓reduceIte, hasSign_0 (s2 61) h7]
