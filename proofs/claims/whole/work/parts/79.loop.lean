/-! CHAPEL: one step of a law's text -/
theorem add_ok {c D e : Nat} {v : Int32} {N : hn} (h : N.1 (D + 8) 1 = nI e) (he : e < 1000) : F_Laws_add c (D + 8) v N = some (hn_wI (hn_wI N (D + 9) e v) (D + 8) 1 (nI (e + 1))) := by
  have g : ¬ (1000 : Int32) ≤ nI e := nI_ge (b := 1000) he (by decide)
  have x1 : hn_ix 1000 (nI e) = true := ix_ok he (by decide)
  have c1 : (nI e).toNatClampNeg = e := nI_lt31 (by omega)
  have w : (hn_wI N (D + 8 + 1) e v).1 (D + 8) 1 = nI e := by rw [wI_o (by omega)]; exact h
  simp only [F_Laws_add, h, g, ↓reduceIte, x1, hg_T, c1, hl_e, w, ← nI_succ]
theorem add_any {c D e e0 : Nat} {v : Int32} {N : hn} (h : N.1 (D + 8) 1 = nI e) (h0 : e0 ≤ e) (he : e ≤ 1000) (hD : 5 ≤ D) : ∃ N' e', F_Laws_add c (D + 8) v N = some N' ∧ pF D e0 N N' ∧ N'.1 (D + 8) 1 = nI e' ∧ e0 ≤ e' ∧ e' ≤ 1000 ∧ N'.1 3 = N.1 3 ∧ N'.1 4 = N.1 4 := by
  by_cases q : e < 1000
  · refine ⟨_, e + 1, add_ok h q, ⟨fun b a1 a2 a3 => by rw [wI_o a2, wI_o a3], by rw [wI_o (by omega), wI_o (by omega)], fun k a => by rw [wI_n a, wI_o (by omega)], fun j a => by rw [wI_o (by omega), wI_n (by omega)], fun _ _ => rfl⟩, wI_s, by omega, by omega, by rw [wI_o (by omega), wI_o (by omega)], by rw [wI_o (by omega), wI_o (by omega)]⟩
  · have g : (1000 : Int32) ≤ nI e := (nI_lei (a := 1000) (by decide) (by omega)).mpr (by omega)
    exact ⟨N, e, by simp only [F_Laws_add, h, g, ↓reduceIte], pF.refl, h, h0, he, rfl, rfl⟩
theorem emit_ok {c g : Nat} {v w : Int32} {M : hn} (h : M.1 76 13 = nI g) (hg : g ≤ 1000) : F_Md_emit c v w M = some (hn_wI (hn_wI (hn_wI M 83 (1100 + g) v) 84 (1100 + g) w) 76 13 (nI (g + 1))) := by
  have e : (1100 : Int32) + nI g = nI (1100 + g) := by rw [show (1100 : Int32) = nI 1100 from rfl, nI_a]
  have x1 : hn_ix 2200 (nI (1100 + g)) = true := ix_ok (by omega) (by decide)
  have c1 : (nI (1100 + g)).toNatClampNeg = 1100 + g := nI_lt31 (by omega)
  have w1 : (hn_wI M 83 (1100 + g) v).1 76 13 = nI g := by rw [wI_o (by decide)]; exact h
  have w2 : (hn_wI (hn_wI M 83 (1100 + g) v) 84 (1100 + g) w).1 76 13 = nI g := by rw [wI_o (by decide)]; exact w1
  simp only [F_Md_emit, h, e, x1, hg_T, c1, hl_e, w1, w2, ← nI_succ]
theorem emit_F {f0 g : Nat} {v w : Int32} {M : hn} (h : f0 ≤ g) : mF f0 M (hn_wI (hn_wI (hn_wI M 83 (1100 + g) v) 84 (1100 + g) w) 76 13 (nI (g + 1))) :=
  ⟨fun b a1 a2 a3 => by rw [wI_o a1, wI_o a3, wI_o a2], fun k _ _ a => by rw [wI_n a, wI_o (by decide), wI_o (by decide)], fun j a => ⟨by rw [wI_o (by decide), wI_o (by decide), wI_n (by omega)], by rw [wI_o (by decide), wI_n (by omega), wI_o (by decide)]⟩, rfl⟩
theorem app1 {l : List (Nat × Int32)} {q : Nat × Int32} {j : Nat} (hj : j < (l ++ [q]).length) : (l ++ [q])[j] = if h : j < l.length then l[j] else q := by
  by_cases h : j < l.length
  · rw [dif_pos h, List.getElem_append_left h]
  · rw [dif_neg h, List.getElem_append_right (by omega)]
    simp
theorem xP_add {c : Nat} {t : Nat → Nat} {n T D k e0 i : Nat} {l : List (Nat × Int32)} {q : Nat × Int32} {N : hn} (h : xP t n T D k e0 i l N) (hT : T ≤ 1000) (hD : 5 ≤ D) (hb : e0 + l.length + 1 ≤ i) :
    ∃ N', F_Laws_add c (D + 8) (enc q) N = some N' ∧ pF D e0 N N' ∧ xP t n T D k e0 i (l ++ [q]) N' := by
  obtain ⟨h1, h2, h3, h4, h5, h6⟩ := h
  have hl : (l ++ [q]).length = l.length + 1 := by simp
  refine ⟨_, add_ok h4 (by omega), ⟨fun b a1 a2 a3 => by rw [wI_o a2, wI_o a3], by rw [wI_o (by omega), wI_o (by omega)], fun k a => by rw [wI_n a, wI_o (by omega)], fun j a => by rw [wI_o (by omega), wI_n (by omega)], fun _ _ => rfl⟩, ?_, h2, ?_, ?_, ?_, ?_⟩
  · obtain ⟨⟨a1, a2, a3⟩, a4⟩ := h1
    have r3 : (hn_wI (hn_wI N (D + 9) (e0 + l.length) (enc q)) (D + 8) 1 (nI (e0 + l.length + 1))).1 3 = N.1 3 := by rw [wI_o (by omega), wI_o (by omega)]
    have r4 : (hn_wI (hn_wI N (D + 9) (e0 + l.length) (enc q)) (D + 8) 1 (nI (e0 + l.length + 1))).1 4 = N.1 4 := by rw [wI_o (by omega), wI_o (by omega)]
    refine ⟨⟨by rw [r3]; exact a1, a2, fun j hj => by rw [r4]; exact a3 j hj⟩, ?_⟩
    unfold atP; rw [r3, wI_2, wI_2]; exact a4
  · rw [wI_o (by omega), wI_o (by omega)]; exact h3
  · rw [wI_s, hl]; rfl
  · rw [hl]; omega
  · intro j hj
    rw [wI_o (by omega), app1 hj]
    by_cases y : j < l.length
    · rw [dif_pos y, wI_n (by omega)]; exact h6 j y
    · rw [dif_neg y, show e0 + j = e0 + l.length by omega, wI_s]
theorem xM_emit {c : Nat} {t : Nat → Nat} {n T k f0 i : Nat} {l : List (Nat × Int32)} {q : Nat × Int32} {M : hn} (h : xM t n T k f0 i l M) (hi : i ≤ 1000) (hb : f0 + l.length + 1 ≤ i) :
    ∃ M', F_Md_emit c (nI q.1) q.2 M = some M' ∧ mF f0 M M' ∧ xM t n T k f0 i (l ++ [q]) M' := by
  obtain ⟨h1, h2, h3, h4, h5, h6, h7, h8, h9, h10⟩ := h
  have hl : (l ++ [q]).length = l.length + 1 := by simp
  refine ⟨_, emit_ok h8 (by omega), emit_F (by omega), ?_, h2, h3, ?_, ?_, ?_, ?_, ?_, ?_, ?_⟩
  · obtain ⟨a1, a2, a3, a4⟩ := h1
    refine ⟨a1, a2, a3, fun j hj => ?_⟩
    rw [wI_o (by decide), wI_o (by decide), wI_o (by decide), wI_o (by decide), wI_o (by decide), wI_o (by decide)]
    exact a4 j hj
  · exact h4
  · rw [wI_n (by decide), wI_o (by decide), wI_o (by decide)]; exact h5
  · rw [wI_n (by decide), wI_o (by decide), wI_o (by decide)]; exact h6
  · rw [wI_n (by decide), wI_o (by decide), wI_o (by decide)]; exact h7
  · rw [wI_s, hl]; rfl
  · rw [hl]; omega
  · intro j hj
    rw [app1 hj]
    by_cases y : j < l.length
    · rw [dif_pos y]
      refine ⟨?_, ?_⟩
      · rw [wI_o (by decide), wI_o (by decide), wI_n (by omega)]; exact (h10 j y).1
      · rw [wI_o (by decide), wI_n (by omega), wI_o (by decide)]; exact (h10 j y).2
    · rw [dif_neg y, show 1100 + f0 + j = 1100 + (f0 + l.length) by omega]
      refine ⟨?_, ?_⟩
      · rw [wI_o (by decide), wI_o (by decide), wI_s]
      · rw [wI_o (by decide), wI_s]
/-- the operator behind its second part, also where that went wrong -/
theorem op_step {c : Nat} {t : Nat → Nat} {n T D k e0 f0 hb i : Nat} {l : List (Nat × Int32)} {A : hn → Option (Int32 × hn)} {B : hn → Option hn} (hS : xSub t n T D k e0 f0 hb A B) {N M : hn} (hP : xP t n T D k e0 (i + 1) l N) (hM : xM t n T k f0 (i + 1) l M)
    (hT : T ≤ 1000) (hD : 5 ≤ D) (b1 : e0 + l.length ≤ i) (b2 : f0 + l.length ≤ i) {q : Nat} (q1 : 4 ≤ q) (q2 : q ≤ 10) :
    ∃ r N2 M2 N3 M3, A N = some (r, N2) ∧ B M = some M2 ∧ F_Laws_add c (D + 8) (enc (q, 0)) N2 = some N3 ∧ F_Md_emit c (nI q) (0 : Int32) M2 = some M3 ∧ pF D e0 N N3 ∧ mF f0 M M3 ∧
      ((r = 0 ∧ ∃ i' l', i < i' ∧ l'.length + i ≤ i' ∧ xP t n T D k e0 i' (l ++ l') N3 ∧ xM t n T k f0 i' (l ++ l') M3 ∧ ∀ h, h + hb ≤ 31 → okL k (h + 1) l' (h + 1)) ∨ xBad t n T D e0 f0 i l.length r N3 M3) := by
  obtain ⟨r, N2, M2, a1, a2, a3, a4, a5⟩ := hS (i + 1) l N M hP hM
  rcases a5 with ⟨a5, i', l', a6, a7, a8, a9, a10⟩ | ⟨f, i1, i2, g2, e2, c1, c2, c3, c4, c5, c6, c7, c8, c9, c10, c11, c12, c13, c14, c15, c16⟩
  · have hi' : i' ≤ T := a8.2.1
    have hl : (l ++ l').length = l.length + l'.length := by simp
    obtain ⟨N3, d1, d2, d3⟩ := xP_add (c := c) (q := (q, 0)) a8 hT hD (by omega)
    obtain ⟨M3, e1, e2, e3⟩ := xM_emit (c := c) (q := (q, 0)) a9 (by omega) (by omega)
    refine ⟨r, N2, M2, N3, M3, a1, a2, d1, e1, a3.trans d2, a4.trans e2, Or.inl ⟨a5, i', l' ++ [(q, 0)], by omega, by simp; omega, ?_, ?_, ?_⟩⟩
    · rw [← List.append_assoc]; exact d3
    · rw [← List.append_assoc]; exact e3
    · intro h hh
      exact okL_app (a10 (h + 1) (by omega)) (okL_one (Or.inr (Or.inr (Or.inr ⟨q1, q2, by omega, rfl⟩))))
  · obtain ⟨N3, e', d1, d2, d3, d4, d5, d6, d7⟩ := add_any (c := c) (v := enc (q, 0)) c7 c8 c9 hD
    refine ⟨r, N2, M2, N3, _, a1, a2, d1, emit_ok (c := c) (v := nI q) (w := 0) c14 (by omega), a3.trans d2, a4.trans (emit_F (by omega)), Or.inr ⟨f, i1, i2, g2 + 1, e', c1, c2, c3, c4, by rw [d6]; exact c5, ?_, d3, d4, d5, ?_, ?_, c12, by omega, wI_s, by omega, by omega⟩⟩
    · obtain ⟨y1, y2, y3⟩ := c6
      exact ⟨by rw [d6]; exact y1, y2, fun j hj => by rw [d7]; exact y3 j hj⟩
    · rw [wI_n (by decide), wI_o (by decide), wI_o (by decide)]; exact c10
    · rw [wI_n (by decide), wI_o (by decide), wI_o (by decide)]; exact c11
