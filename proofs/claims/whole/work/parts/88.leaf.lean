/-! CHAPEL: numbers, facts, not -/
theorem wI_comm {M : hn} {a i b j : Nat} {v w : Int32} (h : a ≠ b ∨ i ≠ j) : hn_wI (hn_wI M a i v) b j w = hn_wI (hn_wI M b j w) a i v := by
  refine Prod.ext ?_ rfl
  funext x y
  simp only [wI_i]
  by_cases p : x = a ∧ y = i
  · have q : ¬ (x = b ∧ y = j) := by omega
    rw [if_neg q, if_pos p, if_pos p]
  · by_cases q : x = b ∧ y = j
    · rw [if_pos q, if_neg p, if_pos q]
    · rw [if_neg q, if_neg p, if_neg p, if_neg q]
/-- the reference tells a number or a fact, and goes on -/
theorem leaf_md {c : Nat} {t : Nat → Nat} {n T k f0 i : Nat} {l : List (Nat × Int32)} {q : Nat × Int32} {M : hn} (h : xM t n T k f0 i l M) (hi : i < T) :
    ∃ M', F_Md_emit c (nI q.1) q.2 M = some M' ∧ M'.1 76 7 = nI i ∧ mF f0 M (hn_wI M' 76 7 (nI (i + 1))) ∧ xM t n T k f0 (i + 1) (l ++ [q]) (hn_wI M' 76 7 (nI (i + 1))) := by
  have hT := h.T
  have h13 := h.2.2.2.2.2.2.2.1
  have hb := h.2.2.2.2.2.2.2.2.1
  have e0 := emit_ok (c := c) (v := nI q.1) (w := q.2) h13 (by omega)
  have hM1 := w7_N h
  obtain ⟨M2, d1, d2, d3⟩ := xM_emit (c := c) (q := q) hM1 (by omega) (by omega)
  have e1 := emit_ok (c := c) (v := nI q.1) (w := q.2) (M := hn_wI M 76 7 (nI (i + 1))) hM1.2.2.2.2.2.2.2.1 (by omega)
  rw [e1] at d1
  have ee := Option.some.inj d1
  have key : hn_wI (hn_wI (hn_wI (hn_wI M 83 (1100 + (f0 + l.length)) (nI q.1)) 84 (1100 + (f0 + l.length)) q.2) 76 13 (nI (f0 + l.length + 1))) 76 7 (nI (i + 1)) = M2 := by
    rw [wI_comm (Or.inr (by decide)), wI_comm (M := hn_wI M 83 (1100 + (f0 + l.length)) (nI q.1)) (Or.inl (by decide)), wI_comm (M := M) (Or.inl (by decide)), ← ee]
  refine ⟨_, e0, ?_, ?_, ?_⟩
  · rw [wI_n (by decide), wI_o (by decide), wI_o (by decide)]; exact h.2.2.2.2.1
  · rw [key]; exact (mF.w (Or.inl rfl)).trans d2
  · rw [key]; exact d3
/-- not, behind its part -/
theorem not_step {c : Nat} {t : Nat → Nat} {n T D k e0 f0 hb i : Nat} {l : List (Nat × Int32)} {A : hn → Option (Int32 × hn)} {B : hn → Option hn} (hS : xSub t n T D k e0 f0 hb A B) {N M : hn} (hP : xP t n T D k e0 (i + 1) l N) (hM : xM t n T k f0 (i + 1) l M)
    (hT : T ≤ 1000) (hD : 5 ≤ D) (b1 : e0 + l.length ≤ i) (b2 : f0 + l.length ≤ i) :
    ∃ r N2 M2 N3 M3, A N = some (r, N2) ∧ B M = some M2 ∧ F_Laws_add c (D + 8) (-140 : Int32) N2 = some N3 ∧ F_Md_emit c (3 : Int32) (0 : Int32) M2 = some M3 ∧ pF D e0 N N3 ∧ mF f0 M M3 ∧
      ((r = 0 ∧ ∃ i' l', i < i' ∧ l'.length + i ≤ i' ∧ xP t n T D k e0 i' (l ++ l') N3 ∧ xM t n T k f0 i' (l ++ l') M3 ∧ ∀ h, h + hb ≤ 32 → okL k h l' (h + 1)) ∨ xBad t n T D e0 f0 i l.length r N3 M3) := by
  obtain ⟨r, N2, M2, a1, a2, a3, a4, a5⟩ := hS (i + 1) l N M hP hM
  rcases a5 with ⟨a5, i', l', a6, a7, a8, a9, a10⟩ | ⟨f, i1, i2, g2, e2, c1, c2, c3, c4, c5, c6, c7, c8, c9, c10, c11, c12, c13, c14, c15, c16⟩
  · have hi' : i' ≤ T := a8.2.1
    have hl : (l ++ l').length = l.length + l'.length := by simp
    obtain ⟨N3, d1, d2, d3⟩ := xP_add (c := c) (q := (3, 0)) a8 hT hD (by omega)
    obtain ⟨M3, e1, e2, e3⟩ := xM_emit (c := c) (q := (3, 0)) a9 (by omega) (by omega)
    refine ⟨r, N2, M2, N3, M3, a1, a2, d1, e1, a3.trans d2, a4.trans e2, Or.inl ⟨a5, i', l' ++ [(3, 0)], by omega, by simp; omega, ?_, ?_, ?_⟩⟩
    · rw [← List.append_assoc]; exact d3
    · rw [← List.append_assoc]; exact e3
    · intro h hh
      exact okL_app (a10 h hh) (okL_one (Or.inr (Or.inr (Or.inl ⟨rfl, by omega, rfl⟩))))
  · obtain ⟨N3, e', d1, d2, d3, d4, d5, d6, d7⟩ := add_any (c := c) (v := (-140 : Int32)) c7 c8 c9 hD
    refine ⟨r, N2, M2, N3, _, a1, a2, d1, emit_ok (c := c) (v := 3) (w := 0) c14 (by omega), a3.trans d2, a4.trans (emit_F (by omega)), Or.inr ⟨f, i1, i2, g2 + 1, e', c1, c2, c3, c4, by rw [d6]; exact c5, ?_, d3, d4, d5, ?_, ?_, c12, by omega, wI_s, by omega, by omega⟩⟩
    · obtain ⟨y1, y2, y3⟩ := c6
      exact ⟨by rw [d6]; exact y1, y2, fun j hj => by rw [d7]; exact y3 j hj⟩
    · rw [wI_n (by decide), wI_o (by decide), wI_o (by decide)]; exact c10
    · rw [wI_n (by decide), wI_o (by decide), wI_o (by decide)]; exact c11
