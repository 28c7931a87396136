/-! CHAPEL: a row of parts with operators between -/
theorem xBad.mono {t : Nat → Nat} {n T D e0 f0 i i' a a' : Nat} {r : Int32} {N M : hn} (h : xBad t n T D e0 f0 i' a' r N M) (h1 : i ≤ i') (h2 : a ≤ a') (h3 : a' + i ≤ i' + a) : xBad t n T D e0 f0 i a r N M := by
  obtain ⟨f, i1, i2, g2, e2, c1, c2, c3, c4, c5, c6, c7, c8, c9, c10, c11, c12, c13, c14, c15, c16⟩ := h
  exact ⟨f, i1, i2, g2, e2, c1, c2, c3, c4, c5, c6, c7, c8, c9, c10, c11, c12, by omega, c14, by omega, by omega⟩
theorem xBad.off {t : Nat → Nat} {n T D e0 f0 i a : Nat} {r : Int32} {N M M' : hn} (h : xBad t n T D e0 f0 i a r N M) (h76 : ∀ k, M'.1 76 k = M.1 76 k) : xBad t n T D e0 f0 i a r N M' := by
  obtain ⟨f, i1, i2, g2, e2, c1, c2, c3, c4, c5, c6, c7, c8, c9, c10, c11, c12, c13, c14, c15, c16⟩ := h
  exact ⟨f, i1, i2, g2, e2, c1, c2, c3, c4, c5, c6, c7, c8, c9, by rw [h76]; exact c10, by rw [h76]; exact c11, c12, c13, by rw [h76]; exact c14, c15, c16⟩
theorem xP.next {t : Nat → Nat} {n T D k e0 i : Nat} {l : List (Nat × Int32)} {N N1 : hn} (h : xP t n T D k e0 i l N) (ho : off3 N N1) (ha : atK t n (i + 1) N1) (hi : i < T) (hD : 5 ≤ D) : xP t n T D k e0 (i + 1) l N1 := by
  obtain ⟨h1, h2, h3, h4, h5, h6⟩ := h
  refine ⟨ha, by omega, by rw [ho.1 2 (by decide)]; exact h3, by rw [ho.1 (D + 8) (by omega)]; exact h4, by omega, fun j hj => by rw [ho.1 (D + 9) (by omega)]; exact h6 j hj⟩
theorem xM.step {t : Nat → Nat} {n T k f0 i i' : Nat} {l : List (Nat × Int32)} {M M1 : hn} (h : xM t n T k f0 i l M) (hii : i ≤ i') (ho : ∀ b, b ≠ 76 → M1.1 b = M.1 b) (h7 : M1.1 76 7 = nI i') (ho7 : ∀ k, k ≠ 7 → M1.1 76 k = M.1 76 k) (h2 : M1.2 = M.2) : xM t n T k f0 i' l M1 := by
  obtain ⟨h1, h2', h3, h4, h5, h6, h7', h8, h9, h10⟩ := h
  refine ⟨?_, h2', h3, ?_, h7, by rw [ho7 8 (by decide)]; exact h6, by rw [ho7 17 (by decide)]; exact h7', by rw [ho7 13 (by decide)]; exact h8, by omega, fun j hj => by rw [ho 83 (by decide), ho 84 (by decide)]; exact h10 j hj⟩
  · obtain ⟨a1, a2, a3, a4⟩ := h1
    refine ⟨a1, a2, a3, fun j hj => ?_⟩
    rw [ho 79 (by decide), ho 78 (by decide), h2]; exact a4 j hj
  · intro w hw; rw [h2]; exact h4 w hw
theorem xM.T {t : Nat → Nat} {n T k f0 i : Nat} {l : List (Nat × Int32)} {M : hn} (h : xM t n T k f0 i l M) : T ≤ 1000 := by have := h.1.1; have := h.2.1; omega
theorem tok_in {t : Nat → Nat} {n T i : Nat} {M : hn} (h : tkR t n T M) (hi : i ≤ T) (hk : kd t n (sT t n i) ≠ 1) : i < T ∧ sT t n i < n := by
  have := tok_lt hk
  refine ⟨?_, this⟩
  rcases Nat.lt_or_ge i T with y | y
  · exact y
  · have e : i = T := by omega
    rw [e, h.2.1] at this; omega
theorem loop_ok {c : Nat} {t : Nat → Nat} {n T D k e0 f0 hb : Nat} {A : hn → Option (Int32 × hn)} {B : hn → Option hn} (hS : xSub t n T D k e0 f0 hb A B) (hD : 5 ≤ D) (op : Nat → Option Nat) (hop : ∀ x q, op x = some q → 4 ≤ q ∧ q ≤ 10 ∧ x ≠ 1)
    {BA : (Int32 → Int32 → Int32 → hn → Option (Int32 × hn)) → Int32 → Int32 → Int32 → hn → Option (Int32 × hn)} {zA : Int32 → Int32 → Int32 → hn → Option (Int32 × hn)} {BB : (Int32 → hn → Option hn) → Int32 → hn → Option hn} {zB : Int32 → hn → Option hn} (v1 : Int32)
    (h1 : ∀ K i l N v3, xP t n T D k e0 i l N → op (kd t n (sT t n i)) = none → BA K v1 0 v3 N = some (0, N))
    (h2 : ∀ K v3 r N, r ≠ 0 → BA K v1 r v3 N = some (r, N))
    (h3 : ∀ K i l N v3 q, xP t n T D k e0 i l N → v3 < 1000 → sT t n i < n → op (kd t n (sT t n i)) = some q → ∃ N1, off3 N N1 ∧ atK t n (i + 1) N1 ∧ BA K v1 0 (nI v3) N = hbN (A N1) fun r N2 => hvN (F_Laws_add c (D + 8) (enc (q, 0)) N2) fun N3 => K v1 r (nI (v3 + 1)) N3)
    (g1 : ∀ K i l M, xM t n T k f0 i l M → i ≤ T → op (kd t n (sT t n i)) = none → ∃ M', BB K v1 M = some M' ∧ mF f0 M M' ∧ xM t n T k f0 i l M')
    (g2 : ∀ K x i M, M.1 76 8 = nI x → 0 < x → x < 2147483648 → M.1 76 7 = nI i → ∃ M', BB K v1 M = some M' ∧ mF f0 M M' ∧ ∀ k, M'.1 76 k = M.1 76 k)
    (g3 : ∀ K i l M q, xM t n T k f0 i l M → i < T → op (kd t n (sT t n i)) = some q → ∃ M1, mF f0 M M1 ∧ xM t n T k f0 (i + 1) l M1 ∧ BB K v1 M = hvN (B M1) fun M2 => hvN (F_Md_emit c (nI q) (0 : Int32) M2) fun M3 => K v1 M3) :
    ∀ (m i : Nat) (l : List (Nat × Int32)) (N M : hn) (v3 nA nB : Nat), T - i ≤ m → m + 1 < nA → m + 1 < nB → v3 ≤ i → xP t n T D k e0 i l N → xM t n T k f0 i l M →
      ∃ r N' M', hm_it BA zA nA v1 0 (nI v3) N = some (r, N') ∧ hm_it BB zB nB v1 M = some M' ∧ pF D e0 N N' ∧ mF f0 M M' ∧
        ((r = 0 ∧ ∃ i' l', i ≤ i' ∧ l'.length + i ≤ i' ∧ xP t n T D k e0 i' (l ++ l') N' ∧ xM t n T k f0 i' (l ++ l') M' ∧ ∀ h, h + hb ≤ 31 → okL k (h + 1) l' (h + 1)) ∨ xBad t n T D e0 f0 i l.length r N' M') := by
  intro m
  induction m with
  | zero =>
    intro i l N M v3 nA nB hm hA hB hv hP hM
    obtain ⟨nA, rfl⟩ : ∃ x, nA = x + 1 := ⟨nA - 1, by omega⟩
    obtain ⟨nB, rfl⟩ : ∃ x, nB = x + 1 := ⟨nB - 1, by omega⟩
    have hi : i ≤ T := hP.2.1
    have iT : i = T := by omega
    have ho : op (kd t n (sT t n i)) = none := by
      cases e : op (kd t n (sT t n i)) with
      | none => rfl
      | some q =>
        exfalso
        have := (tok_in hM.1 hi (hop _ _ e).2.2).1
        omega
    obtain ⟨M', d1, d2, d3⟩ := g1 (hm_it BB zB nB) i l M hM hi ho
    refine ⟨0, N, M', h1 _ i l N (nI v3) hP ho, d1, pF.refl, d2, Or.inl ⟨rfl, i, [], Nat.le_refl _, by simp, by rw [List.append_nil]; exact hP, by rw [List.append_nil]; exact d3, fun h _ => rfl⟩⟩
  | succ m ih =>
    intro i l N M v3 nA nB hm hA hB hv hP hM
    obtain ⟨nA, rfl⟩ : ∃ x, nA = x + 1 := ⟨nA - 1, by omega⟩
    obtain ⟨nB, rfl⟩ : ∃ x, nB = x + 1 := ⟨nB - 1, by omega⟩
    have hi : i ≤ T := hP.2.1
    have hT := hM.T
    cases ho : op (kd t n (sT t n i)) with
    | none =>
      obtain ⟨M', d1, d2, d3⟩ := g1 (hm_it BB zB nB) i l M hM hi ho
      exact ⟨0, N, M', h1 _ i l N (nI v3) hP ho, d1, pF.refl, d2, Or.inl ⟨rfl, i, [], Nat.le_refl _, by simp, by rw [List.append_nil]; exact hP, by rw [List.append_nil]; exact d3, fun h _ => rfl⟩⟩
    | some q =>
      obtain ⟨q1, q2, q3⟩ := hop _ _ ho
      obtain ⟨iT, sn⟩ := tok_in hM.1 hi q3
      obtain ⟨N1, a1, a2, a3⟩ := h3 (hm_it BA zA nA) i l N v3 q hP (by omega) sn ho
      obtain ⟨M1, b1, b2, b3⟩ := g3 (hm_it BB zB nB) i l M q hM iT ho
      have hP1 := hP.next a1 a2 iT hD
      obtain ⟨r, N2, M2, N3, M3, s1, s2, s3, s4, s5, s6, s7⟩ := op_step (c := c) hS hP1 b2 hT hD hP.2.2.2.2.1 hM.2.2.2.2.2.2.2.2.1 q1 q2
      have eA : hm_it BA zA (nA + 1) v1 0 (nI v3) N = hm_it BA zA nA v1 r (nI (v3 + 1)) N3 := by
        show BA (hm_it BA zA nA) v1 0 (nI v3) N = _
        rw [a3]; simp only [s1, hbN_e, s3, hvN_e]
      have eB : hm_it BB zB (nB + 1) v1 M = hm_it BB zB nB v1 M3 := by
        show BB (hm_it BB zB nB) v1 M = _
        rw [b3]; simp only [s2, hvN_e, s4]
      rw [eA, eB]
      have fP := (pF.o3 (D := D) (e0 := e0) a1).trans s5
      have fM := b1.trans s6
      rcases s7 with ⟨rfl, i', l', y1, y2, y3, y4, y5⟩ | bad
      · obtain ⟨r, N', M', z1, z2, z3, z4, z5⟩ := ih i' (l ++ l') N3 M3 (v3 + 1) nA nB (by omega) (by omega) (by omega) (by omega) y3 y4
        refine ⟨r, N', M', z1, z2, fP.trans z3, fM.trans z4, ?_⟩
        rcases z5 with ⟨w0, i2, l2, w1, w2, w3, w4, w5⟩ | bad
        · refine Or.inl ⟨w0, i2, l' ++ l2, by omega, by simp; omega, by rw [← List.append_assoc]; exact w3, by rw [← List.append_assoc]; exact w4, fun h hh => okL_app (y5 h hh) (w5 h hh)⟩
        · refine Or.inr (bad.mono (by omega) (by simp) (by simp; omega))
      · obtain ⟨nA, rfl⟩ : ∃ x, nA = x + 1 := ⟨nA - 1, by omega⟩
        obtain ⟨nB, rfl⟩ : ∃ x, nB = x + 1 := ⟨nB - 1, by omega⟩
        have bad' := bad
        obtain ⟨f, i1, i2, g, e2, c1, c2, c3, c4, c5, c6, c7, c8, c9, c10, c11, c12, c13, c14, c15, c16⟩ := bad
        have hn' := hM.2.1
        have sb := sT_b (t := t) (n := n) i1
        have r0 : r ≠ 0 := by
          rw [c3]; intro z
          have := (nI_eqi (b := 0) (by omega) (by decide)).mp z; omega
        obtain ⟨M', d1, d2, d3⟩ := g2 (hm_it BB zB nB) _ i2 M3 c10 (by omega) (by omega) c11
        exact ⟨r, N3, M', h2 _ _ r N3 r0, d1, fP, fM.trans d2, Or.inr (bad'.off d3)⟩
