/-! THE START: the made memory stands in the relation -/
def JJ (M : hm_M) : Prop := ∃ (c : Nat) (ch : Nat → Int32) (law : Law) (N : hn), M = (N.1, N.2, rT c) ∧ RR c ch law N ∧ lowL ch law
theorem ini_J : ∃ M1 M2, g_Ps_init [.inr 11] 1 hm_zero = some M1 ∧ g_Md_init sh2 76 M1 = some M2 ∧ JJ M2 := by
  have k1 := chkI_ok
  have k2 := chkW_ok
  have k3 := chkR_ok
  have k4 := chkY_ok
  cases e1 : g_Ps_init [.inr 11] 1 hm_zero with
  | none =>
    have : iniM = none := by unfold iniM; rw [e1]; rfl
    rw [this] at k1; exact absurd k1 (by decide)
  | some M1 =>
    cases e2 : g_Md_init sh2 76 M1 with
    | none =>
      have : iniM = none := by unfold iniM; rw [e1, hv_s', e2]
      rw [this] at k1; exact absurd k1 (by decide)
    | some M2 =>
      have eM : iniM = some M2 := by unfold iniM; rw [e1, hv_s', e2]
      rw [eM] at k1 k2 k3 k4
      have k1 : iniC.all (fun x => M2.1 x.1 x.2.1 == x.2.2) = true := k1
      have k2 : (List.range 22).all (fun k => M2.2.1 81 k == lN (wordS k)) = true := k2
      have k3 : (List.range 100).all (fun a => (List.range 34).all fun k => M2.2.2 a k == rT 20 a k) = true := k3
      have k4 : (List.range 2496).all (fun k => M2.2.1 35 k == 0) = true := k4
      have c1 : ∀ a k v, (a, k, v) ∈ iniC → M2.1 a k = v := fun a k v h => by
        have := List.all_eq_true.mp k1 _ h
        exact eq_of_beq this
      have c2 : ∀ k, k < 22 → M2.2.1 81 k = lN (wordS k) := fun k h => eq_of_beq (List.all_eq_true.mp k2 k (List.mem_range.mpr h))
      have c3 : ∀ a k, a < 100 → k < 34 → M2.2.2 a k = rT 20 a k := fun a k ha hk => by
        have := List.all_eq_true.mp k3 a (List.mem_range.mpr ha)
        exact eq_of_beq (List.all_eq_true.mp this k (List.mem_range.mpr hk))
      have c4 : ∀ k, k < 2496 → M2.2.1 35 k = 0 := fun k h => eq_of_beq (List.all_eq_true.mp k4 k (List.mem_range.mpr h))
      have b1 : bd M1 := bd_Ps (fun _ _ _ => rfl) (by decide) (by decide) e1
      have b2 : bd M2 := bd_Md b1 (by decide) (by decide) e2
      have rz : ∀ a k, (100 ≤ a ∨ 34 ≤ k) → rT 20 a k = 0 := by
        intro a k h
        unfold rT
        split <;> first | rfl | (exfalso; omega)
      have eR : M2.2.2 = rT 20 := by
        funext a k
        by_cases h : 100 ≤ a ∨ 34 ≤ k
        · rw [b2 a k h, rz a k h]
        · exact c3 a k (by omega) (by omega)
      refine ⟨M1, M2, rfl, e2, 20, M2.1 82, fun _ => none, (M2.1, M2.2.1), ?_, ?_, fun k _ l hl => by simp at hl⟩
      · rw [← eR]
      · have h0 : M2.1 82 0 = nI 4 := c1 82 0 4 (by decide)
        have h1 : M2.1 82 1 = nI 4 := c1 82 1 4 (by decide)
        have h2 : M2.1 82 2 = nI 0 := c1 82 2 0 (by decide)
        have h3 : M2.1 82 3 = nI 0 := c1 82 3 0 (by decide)
        have h4 : M2.1 82 4 = nI 0 := c1 82 4 0 (by decide)
        have nw : nW (M2.1 82) = 4 := by unfold nW; rw [h0]; rfl
        have nd : nD (M2.1 82) = 4 := by unfold nD; rw [h1]; rfl
        have nc : nC (M2.1 82) = 0 := by unfold nC; rw [h2]; rfl
        have ng : nG (M2.1 82) = 0 := by unfold nG; rw [h3]; rfl
        have np : nP (M2.1 82) = 0 := by unfold nP; rw [h4]; rfl
        have four : ∀ k, k < 4 → k = 0 ∨ k = 1 ∨ k = 2 ∨ k = 3 := fun k h => by omega
        refine ⟨Or.inr rfl, ?_, fun k _ l hl => by simp at hl, ⟨?_, ⟨?_, Or.inl (c1 19 3 (-1) (by decide))⟩, ?_⟩, ⟨fun k _ => rfl, ?_⟩, ?_, ?_, ?_, ⟨0, by omega, c1 3 1 0 (by decide), c1 76 2 0 (by decide), fun i hi => by omega⟩, c1 76 23 0 (by decide), c2⟩
        · unfold chOK
          rw [nw, nd, nc, ng, np]
          exact ⟨⟨h0, by omega, by omega⟩, ⟨h1, by omega, by omega⟩, ⟨h2, by omega⟩, ⟨h3, by omega⟩, ⟨h4, by omega⟩, fun p hp => by omega, fun g hg => by omega⟩
        · refine ⟨fun k hk => ?_, fun p hp => by rw [np] at hp; omega, fun g hg => by rw [ng] at hg; omega, fun k hk => ?_⟩
          · have k' : k = 0 ∨ k = 1 ∨ k = 2 ∨ k = 3 ∨ k = 4 := by omega
            rcases k' with rfl | rfl | rfl | rfl | rfl
            · exact (c1 20 0 4 (by decide)).trans h0.symm
            · exact (c1 20 1 4 (by decide)).trans h1.symm
            · exact (c1 20 2 0 (by decide)).trans h2.symm
            · exact (c1 20 3 0 (by decide)).trans h3.symm
            · exact (c1 20 4 0 (by decide)).trans h4.symm
          · show M2.1 30 k = nI 0 ∧ M2.1 31 k = nI 0
            rcases four k hk with rfl | rfl | rfl | rfl
            · exact ⟨c1 30 0 0 (by decide), c1 31 0 0 (by decide)⟩
            · exact ⟨c1 30 1 0 (by decide), c1 31 1 0 (by decide)⟩
            · exact ⟨c1 30 2 0 (by decide), c1 31 2 0 (by decide)⟩
            · exact ⟨c1 30 3 0 (by decide), c1 31 3 0 (by decide)⟩
        · intro u hu
          left
          show M2.2.1 35 (2 * u) &&& KN = 0
          rw [c4 _ (by omega)]; decide
        · exact ⟨0, 0, by omega, by omega, fun _ => rfl, c1 43 2 0 (by decide), c1 43 3 0 (by decide), fun i hi => by omega⟩
        · intro k hk
          show M2.1 82 (65 + k) = -1
          rcases four k hk with rfl | rfl | rfl | rfl
          · exact c1 82 65 (-1) (by decide)
          · exact c1 82 66 (-1) (by decide)
          · exact c1 82 67 (-1) (by decide)
          · exact c1 82 68 (-1) (by decide)
        · unfold holdR
          rw [np, ng]
          refine ⟨c1 36 5 0 (by decide), ?_, fun i _ _ => ?_, fun p hp => by omega, fun p _ hp => ?_, ⟨0, by omega, c1 36 2 0 (by decide), ?_, fun i hi => by omega⟩⟩
          · exact (c1 36 1 0 (by decide)).trans (c1 88 12 0 (by decide)).symm
          · show bt (M2.1 88 12) i = false
            rw [c1 88 12 0 (by decide), b_0]
          · show M2.1 37 p = -1
            have k' : p = 0 ∨ p = 1 ∨ p = 2 ∨ p = 3 ∨ p = 4 ∨ p = 5 ∨ p = 6 ∨ p = 7 ∨ p = 8 ∨ p = 9 ∨ p = 10 ∨ p = 11 := by omega
            rcases k' with rfl | rfl | rfl | rfl | rfl | rfl | rfl | rfl | rfl | rfl | rfl | rfl
            · exact c1 37 0 (-1) (by decide)
            · exact c1 37 1 (-1) (by decide)
            · exact c1 37 2 (-1) (by decide)
            · exact c1 37 3 (-1) (by decide)
            · exact c1 37 4 (-1) (by decide)
            · exact c1 37 5 (-1) (by decide)
            · exact c1 37 6 (-1) (by decide)
            · exact c1 37 7 (-1) (by decide)
            · exact c1 37 8 (-1) (by decide)
            · exact c1 37 9 (-1) (by decide)
            · exact c1 37 10 (-1) (by decide)
            · exact c1 37 11 (-1) (by decide)
          · exact c1 88 13 0 (by decide)
        · exact ⟨0, 0, by omega, by omega, c1 40 2 0 (by decide), c1 40 3 0 (by decide), c1 76 21 0 (by decide), fun i hi => by omega⟩
        · intro m hm
          have e9 : M2.1 1 9 = 0 := c1 1 9 0 (by decide)
          have e8 : M2.1 89 m = 0 := by
            rcases four m hm with rfl | rfl | rfl | rfl
            · exact c1 89 0 0 (by decide)
            · exact c1 89 1 0 (by decide)
            · exact c1 89 2 0 (by decide)
            · exact c1 89 3 0 (by decide)
          show (M2.1 89 m = 0 ∨ M2.1 89 m = 1) ∧ (bt (M2.1 1 9) m = true ↔ ¬ M2.1 89 m = 0) ∧ (bt (M2.1 1 9) m = true → _)
          rw [e8, e9, b_0]
          exact ⟨Or.inl rfl, by simp, fun y => by simp at y⟩
