/-! CHAPEL: products, sums -/
theorem row_ok {c : Nat} {t : Nat → Nat} {n T D k e0 f0 hb : Nat} {A : hn → Option (Int32 × hn)} {B : hn → Option hn} (hS : xSub t n T D k e0 f0 hb A B) (hD : 5 ≤ D) (op : Nat → Option Nat) (hop : ∀ x q, op x = some q → 4 ≤ q ∧ q ≤ 10 ∧ x ≠ 1)
    {BA : (Int32 → Int32 → Int32 → hn → Option (Int32 × hn)) → Int32 → Int32 → Int32 → hn → Option (Int32 × hn)} {zA : Int32 → Int32 → Int32 → hn → Option (Int32 × hn)} {BB : (Int32 → hn → Option hn) → Int32 → hn → Option hn} {zB : Int32 → hn → Option hn} (v1 : Int32)
    (h1 : ∀ K i l N v3, xP t n T D k e0 i l N → op (kd t n (sT t n i)) = none → BA K v1 0 v3 N = some (0, N))
    (h2 : ∀ K v3 r N, r ≠ 0 → BA K v1 r v3 N = some (r, N))
    (h3 : ∀ K i l N v3 q, xP t n T D k e0 i l N → v3 < 1000 → sT t n i < n → op (kd t n (sT t n i)) = some q → ∃ N1, off3 N N1 ∧ atK t n (i + 1) N1 ∧ BA K v1 0 (nI v3) N = hbN (A N1) fun r N2 => hvN (F_Laws_add c (D + 8) (enc (q, 0)) N2) fun N3 => K v1 r (nI (v3 + 1)) N3)
    (g1 : ∀ K i l M, xM t n T k f0 i l M → i ≤ T → op (kd t n (sT t n i)) = none → ∃ M', BB K v1 M = some M' ∧ mF f0 M M' ∧ xM t n T k f0 i l M')
    (g2 : ∀ K x i M, M.1 76 8 = nI x → 0 < x → x < 2147483648 → M.1 76 7 = nI i → ∃ M', BB K v1 M = some M' ∧ mF f0 M M' ∧ ∀ k, M'.1 76 k = M.1 76 k)
    (g3 : ∀ K i l M q, xM t n T k f0 i l M → i < T → op (kd t n (sT t n i)) = some q → ∃ M1, mF f0 M M1 ∧ xM t n T k f0 (i + 1) l M1 ∧ BB K v1 M = hvN (B M1) fun M2 => hvN (F_Md_emit c (nI q) (0 : Int32) M2) fun M3 => K v1 M3) :
    xSub t n T D k e0 f0 (hb + 1) (fun N => hbN (A N) fun r N1 => hm_it BA zA hN v1 r (0 : Int32) N1) (fun M => hvN (B M) fun M1 => hm_it BB zB hN v1 M1) := by
  intro i l N M hP hM
  obtain ⟨r, N1, M1, a1, a2, a3, a4, a5⟩ := hS i l N M hP hM
  have hT := hM.T
  have eA : (hbN (A N) fun r N1 => hm_it BA zA hN v1 r (0 : Int32) N1) = hm_it BA zA hN v1 r (0 : Int32) N1 := by rw [a1, hbN_e]
  have eB : (hvN (B M) fun M1 => hm_it BB zB hN v1 M1) = hm_it BB zB hN v1 M1 := by rw [a2, hvN_e]
  show xOut t n T D k e0 f0 i l (hb + 1) N M (hbN (A N) fun r N1 => hm_it BA zA hN v1 r (0 : Int32) N1) (hvN (B M) fun M1 => hm_it BB zB hN v1 M1)
  rw [eA, eB]
  rcases a5 with ⟨rfl, i', l', y1, y2, y3, y4, y5⟩ | bad
  · obtain ⟨r, N', M', z1, z2, z3, z4, z5⟩ := loop_ok (zA := zA) (zB := zB) hS hD op hop v1 h1 h2 h3 g1 g2 g3 T i' (l ++ l') N1 M1 0 hN hN (by omega) (hN_big (by omega)) (hN_big (by omega)) (Nat.zero_le _) y3 y4
    refine ⟨r, N', M', z1, z2, a3.trans z3, a4.trans z4, ?_⟩
    rcases z5 with ⟨w0, i2, l2, w1, w2, w3, w4, w5⟩ | bad
    · refine Or.inl ⟨w0, i2, l' ++ l2, by omega, by simp; omega, by rw [← List.append_assoc]; exact w3, by rw [← List.append_assoc]; exact w4, fun h hh => okL_app (y5 h (by omega)) (w5 h (by omega))⟩
    · refine Or.inr (bad.mono (by omega) (by simp) (by simp; omega))
  · have bad' := bad
    obtain ⟨f, i1, i2, g, e2, c1, c2, c3, c4, c5, c6, c7, c8, c9, c10, c11, c12, c13, c14, c15, c16⟩ := bad
    have hn' := hM.2.1
    have sb := sT_b (t := t) (n := n) i1
    have r0 : r ≠ 0 := by
      rw [c3]; intro z
      have := (nI_eqi (b := 0) (by omega) (by decide)).mp z; omega
    obtain ⟨M', d1, d2, d3⟩ := g2 (hm_it BB zB 99999) _ i2 M1 c10 (by omega) (by omega) c11
    exact ⟨r, N1, M', h2 (hm_it BA zA 99999) _ r N1 r0, d1, a3, a4.trans d2, Or.inr (bad'.off d3)⟩
theorem bad8 {x : Nat} (h : 0 < x) (h2 : x < 2147483648) : ¬ nI x = (0 : Int32) := fun z => by have := (nI_eqi (b := 0) h2 (by decide)).mp z; omega
theorem isSign_bad {c x : Nat} {v : Int32} {M : hn} (h : M.1 76 8 = nI x) (h0 : 0 < x) (h2 : x < 2147483648) : F_Md_isSign c v M = some (0, M) := by
  simp only [F_Md_isSign, h, bad8 h0 h2, ↓reduceIte]
theorem isWord_bad {c x : Nat} {v : Int32} {M : hn} (h : M.1 76 8 = nI x) (h0 : 0 < x) (h2 : x < 2147483648) : F_Md_isWord c v M = some (0, M) := by
  simp only [F_Md_isWord, h, bad8 h0 h2, ↓reduceIte]
theorem w7_same {M : hn} {v : Int32} (h : M.1 76 7 = v) : ∀ k, (hn_wI M 76 7 (v + 0)).1 76 k = M.1 76 k := by
  intro k
  by_cases e : k = 7
  · subst e; rw [wI_s, h, Int32.add_zero]
  · rw [wI_n e]
theorem xP.k4 {t : Nat → Nat} {n T D k e0 i : Nat} {l : List (Nat × Int32)} {N : hn} (h : xP t n T D k e0 i l N) : N.1 3 4 = nI (kd t n (sT t n i)) ∧ kd t n (sT t n i) ≤ 150 := ⟨h.1.2.2.1, tok_kd (fun q => (h.1.1.2.2 _ q).2)⟩
theorem nI_ni {a b : Nat} (ha : a < 2147483648) (hb : b < 2147483648) (h : a ≠ b) : ¬ nI a = nI b := fun z => h ((nI_eqi ha hb).mp z)
theorem hasSign_0 {c : Nat} {m : Int32} {M : hn} {v : Int32} (h : F_Md_isSign c m M = some (0, M)) (h7 : M.1 76 7 = v) : F_Md_hasSign c m M = some (0, hn_wI M 76 7 (v + 0)) := by
  simp only [F_Md_hasSign, B_Md_hasSign_1, h, hbN_e, ↓reduceIte, h7, hl_e, true_or, hg_T]
theorem hasSign_1 {c : Nat} {m : Int32} {M : hn} {i : Nat} (h : F_Md_isSign c m M = some (1, M)) (h7 : M.1 76 7 = nI i) : F_Md_hasSign c m M = some (1, hn_wI M 76 7 (nI (i + 1))) := by
  have z : ¬ (1 : Int32) = 0 := by decide
  simp only [F_Md_hasSign, B_Md_hasSign_1, h, hbN_e, z, ↓reduceIte, h7, hl_e, ← nI_succ, or_true, hg_T]
