/-! CHAPEL: how both begin; the whole text -/
theorem lbeg_ok {c v : Nat} {N : hn} : ∃ N', F_Laws_begin c v N = some N' ∧ fr (fun b k => (b = v ∧ k = 1) ∨ b = v + 2 ∨ b = v + 3) NL N N' ∧ N'.1 v 1 = 0 ∧ ∀ k, k < 4 → N'.1 (v + 2) k = 0 ∧ N'.1 (v + 3) k = 0 := by
  have e0 : F_Laws_begin c v N = F_Laws_begin_1 c hN v (0 : Int32) (hn_wI N v 1 (0 : Int32)) := by simp only [F_Laws_begin, hl_e]
  rw [e0]
  refine it_wp (B := B_Laws_begin_1 c) (z := fun _ _ _ => none) (fun K j (s : hn) => K v (nI j) s) 4
    (fun j s => fr (fun b k => (b = v ∧ k = 1) ∨ b = v + 2 ∨ b = v + 3) NL N s ∧ s.1 v 1 = 0 ∧ ∀ k, k < j → s.1 (v + 2) k = 0 ∧ s.1 (v + 3) k = 0)
    (Q := fun y => ∃ N', y = some N' ∧ fr (fun b k => (b = v ∧ k = 1) ∨ b = v + 2 ∨ b = v + 3) NL N N' ∧ N'.1 v 1 = 0 ∧ ∀ k, k < 4 → N'.1 (v + 2) k = 0 ∧ N'.1 (v + 3) k = 0) ?_ ?_ (n := hN) (k := 0) (s := hn_wI N v 1 (0 : Int32)) (Nat.zero_le _) (hN_big (by omega)) ⟨fr.wI (Or.inl ⟨rfl, rfl⟩), wI_s, fun k hk => by omega⟩
  · intro K s hs
    have g : (4 : Int32) ≤ nI 4 := by decide
    exact ⟨s, by simp only [B_Laws_begin_1, g, ↓reduceIte], hs⟩
  · intro K j s hj ⟨h1, h2, h3⟩
    right
    have g : ¬ (4 : Int32) ≤ nI j := nI_ge (b := 4) hj (by decide)
    have x1 : hn_ix 4 (nI j) = true := ix_ok (by omega) (by decide)
    have c1 : (nI j).toNatClampNeg = j := nI_lt31 (by omega)
    refine ⟨hn_wI (hn_wI s (v + 2) j 0) (v + 3) j 0, ⟨(h1.trans (fr.wI (Or.inr (Or.inl rfl)))).trans (fr.wI (Or.inr (Or.inr rfl))), ?_, fun k hk => ?_⟩, ?_⟩
    · rw [wI_o (by omega), wI_o (by omega)]; exact h2
    · by_cases q : k = j
      · subst q
        exact ⟨by rw [wI_o (by omega)]; exact wI_s, wI_s⟩
      · rw [wI_o (by omega), wI_n q, wI_n q, wI_o (by omega)]; exact h3 k (by omega)
    · simp only [B_Laws_begin_1, g, ↓reduceIte, x1, hg_T, c1, hl_e, ← nI_succ]
theorem cbeg_ok {c D : Nat} {N : hn} : ∃ N', F_Chapel_begin c D N = some N' ∧ fr (fun b k => b = D ∨ (b = D + 8 ∧ k = 1) ∨ b = D + 10 ∨ b = D + 11) NL N N' ∧ N'.1 D 0 = 4 ∧ N'.1 D 1 = 4 ∧ N'.1 D 2 = 0 ∧ N'.1 D 3 = 0 ∧ N'.1 D 4 = 0 ∧ N'.1 (D + 8) 1 = 0 ∧ ∀ k, k < 4 → N'.1 (D + 10) k = 0 ∧ N'.1 (D + 11) k = 0 := by
  obtain ⟨X, hX⟩ : ∃ X : hn, X = hn_wI (hn_wI (hn_wI (hn_wI (hn_wI N D 0 (4 : Int32)) D 1 (4 : Int32)) D 2 (0 : Int32)) D 3 (0 : Int32)) D 4 (0 : Int32) := ⟨_, rfl⟩
  obtain ⟨N', d1, d2, d3, d4⟩ := lbeg_ok (c := c) (v := D + 8) (N := X)
  have FX : fr (fun b k => b = D ∨ (b = D + 8 ∧ k = 1) ∨ b = D + 10 ∨ b = D + 11) NL N X := by
    rw [hX]
    exact ((((fr.wI (Or.inl rfl)).trans (fr.wI (Or.inl rfl))).trans (fr.wI (Or.inl rfl))).trans (fr.wI (Or.inl rfl))).trans (fr.wI (Or.inl rfl))
  have FN : fr (fun b k => b = D ∨ (b = D + 8 ∧ k = 1) ∨ b = D + 10 ∨ b = D + 11) NL X N' := d2.mono (fun b k y => by first | omega | (dsimp only at y ⊢; omega)) (fun _ _ y => y)
  have eD : ∀ k, N'.1 D k = X.1 D k := fun k => d2.1 D k (by first | omega | (dsimp only; omega))
  refine ⟨N', ?_, FX.trans FN, ?_, ?_, ?_, ?_, ?_, d3, d4⟩
  · simp only [F_Chapel_begin, hl_e, ← hX, d1, hvN_e]
  · rw [eD, hX, wI_n (by decide), wI_n (by decide), wI_n (by decide), wI_n (by decide)]; exact wI_s
  · rw [eD, hX, wI_n (by decide), wI_n (by decide), wI_n (by decide)]; exact wI_s
  · rw [eD, hX, wI_n (by decide), wI_n (by decide)]; exact wI_s
  · rw [eD, hX, wI_n (by decide)]; exact wI_s
  · rw [eD, hX]; exact wI_s
def d82 (v : Nat) : Int32 := if v < 2 then 4 else if v < 65 then 0 else -1
theorem mbeg_ok {c : Nat} {M : hn} : ∃ M', F_Md_chapel_1 c hN (0 : Int32) M = F_Md_chapel_3 c hN M' ∧ fr (fun b k => b = 82 ∧ 80 ≤ k) NL M M' ∧ ∀ k, k < 80 → M'.1 82 (80 + k) = d82 k := by
  refine it_wp (B := B_Md_chapel_1 c) (z := fun _ _ => none) (fun K j (s : hn) => K (nI j) s) 80
    (fun j s => fr (fun b k => b = 82 ∧ 80 ≤ k) NL M s ∧ ∀ k, k < j → s.1 82 (80 + k) = d82 k)
    (Q := fun y => ∃ M', y = F_Md_chapel_3 c hN M' ∧ fr (fun b k => b = 82 ∧ 80 ≤ k) NL M M' ∧ ∀ k, k < 80 → M'.1 82 (80 + k) = d82 k) ?_ ?_ (n := hN) (k := 0) (s := M) (Nat.zero_le _) (hN_big (by omega)) ⟨fr.refl, fun k hk => by omega⟩
  · intro K s hs
    have g : (80 : Int32) ≤ nI 80 := by decide
    exact ⟨s, by simp only [B_Md_chapel_1, g, ↓reduceIte], hs⟩
  · intro K j s hj ⟨h1, h2⟩
    right
    have g : ¬ (80 : Int32) ≤ nI j := nI_ge (b := 80) hj (by decide)
    have e80 : (80 : Int32) + nI j = nI (80 + j) := by rw [show (80 : Int32) = nI 80 from rfl, nI_a]
    have x1 : hn_ix 160 (nI (80 + j)) = true := ix_ok (by omega) (by decide)
    have c1 : (nI (80 + j)).toNatClampNeg = 80 + j := nI_lt31 (by omega)
    have l2 : ((2 : Int32) ≤ nI j) ↔ 2 ≤ j := nI_lei (a := 2) (by decide) (by omega)
    have l65 : (nI j < (65 : Int32)) ↔ j < 65 := nI_lti (b := 65) (by omega) (by decide)
    refine ⟨hn_wI s 82 (80 + j) (d82 j), ⟨h1.trans (fr.wI ⟨rfl, by omega⟩), fun k hk => ?_⟩, ?_⟩
    · by_cases q : k = j
      · subst q; exact wI_s
      · rw [wI_n (by omega)]; exact h2 k (by omega)
    · by_cases a : 2 ≤ j
      · by_cases b : j < 65
        · have ed : d82 j = 0 := by unfold d82; rw [if_neg (by omega), if_pos b]
          simp only [B_Md_chapel_1, B_Md_chapel_2, g, ↓reduceIte, l2, l65, a, b, e80, x1, hg_T, c1, hl_e, ← nI_succ, ed]
        · have ed : d82 j = -1 := by unfold d82; rw [if_neg (by omega), if_neg b]
          simp only [B_Md_chapel_1, B_Md_chapel_2, g, ↓reduceIte, l2, l65, a, b, e80, x1, hg_T, c1, hl_e, ← nI_succ, ed]
      · have ed : d82 j = 4 := by unfold d82; rw [if_pos (by omega)]
        simp only [B_Md_chapel_1, B_Md_chapel_2, g, ↓reduceIte, l2, a, e80, x1, hg_T, c1, hl_e, ← nI_succ, ed]
def PS0 (D b _k : Nat) : Prop := b = 2 ∨ b = 3 ∨ (D ≤ b ∧ b ≤ D + 13)
def MS0 (b k : Nat) : Prop := (b = 76 ∧ (k = 0 ∨ k = 2 ∨ k = 3 ∨ k = 7 ∨ k = 8 ∨ k = 13 ∨ k = 15 ∨ k = 16 ∨ k = 17)) ∨ b = 78 ∨ b = 79 ∨ (b = 82 ∧ 80 ≤ k) ∨ ((b = 83 ∨ b = 84) ∧ 1100 ≤ k)
def ML0 (b _k : Nat) : Prop := b = 80 ∨ b = 85
theorem read_ok {c : Nat} (hc : c = 5 ∨ c = 20) {t : Nat → Nat} {n : Nat} {N M : hn} (hP : tapP t n N) (h2 : M.1 76 2 = nI n) (h77 : ∀ i, i < n → M.1 77 i = nI (t i)) (hw : wordsR M) :
    ∃ a Nf M', F_Reader_readAll c N = some (a, Nf) ∧ F_Md_chapel c M = (if a = 0 then F_Md_chapel_5 c hN (0 : Int32) M' else some (a, M')) ∧ fr (PS0 (25 - c)) (PL (25 - c)) N Nf ∧ fr MS0 ML0 M M' ∧ Nf.1 3 1 = 0 ∧ M'.1 76 2 = 0 ∧
      (a = 0 → ∃ i g p e f law, i ≤ 1000 ∧ dX t n (25 - c) i g p e f law Nf M') := by
  have hn' := hP.2.1
  -- the class begins
  obtain ⟨Nb, b1, b2, b3, b4, b5, b6, b7, b8, b9⟩ := cbeg_ok (c := c) (D := 25 - c) (N := N)
  have hPb : tapP t n (hn_wI Nb 2 2 (0 : Int32)) := by
    refine ⟨?_, hn', fun i hi => ?_⟩
    · rw [wI_o (by decide), b2.1 3 1 (by first | omega | (dsimp only; omega))]; exact hP.1
    · rw [wI_o (by decide), b2.1 4 i (by first | omega | (dsimp only; omega))]; exact hP.2.2 i hi
  obtain ⟨Nc, r1, r2, r3⟩ := rewind_K (c := c) hPb
  have cA : F_Reader_readAll c N = F_Reader_readAll_1 c hN (0 : Int32) (0 : Int32) Nc := by
    simp only [F_Reader_readAll, b1, hvN_e, hl_e, r1]
  -- the reference begins
  obtain ⟨T, Mc, m1, m2, m3, m4, m5, m6⟩ := cutAll_ok (c := c) (t := t) (N := hn_wI M 76 0 (0 : Int32)) hn' (by rw [wI_n (by decide)]; exact h2) (fun i hi => by rw [wI_o (by decide)]; exact ⟨h77 i hi, (hP.2.2 i hi).2⟩)
  obtain ⟨M3, hM3⟩ : ∃ M3 : hn, M3 = hn_wI (hn_wI (hn_wI Mc 76 13 (0 : Int32)) 76 15 (0 : Int32)) 76 16 (0 : Int32) := ⟨_, rfl⟩
  obtain ⟨M4, s1, s2, s3⟩ := mbeg_ok (c := c) (M := M3)
  have mA : F_Md_chapel c M = F_Md_chapel_3 c hN M4 := by
    simp only [F_Md_chapel, hl_e, m1, hvN_e, ← hM3, s1]
  have e76 : ∀ k, k ≠ 13 → k ≠ 15 → k ≠ 16 → M4.1 76 k = Mc.1 76 k := fun k a1 a2 a3 => by
    rw [s2.1 76 k (by first | omega | (dsimp only; omega)), hM3, wI_n a3, wI_n a2, wI_n a1]
  have eO : ∀ b, b ≠ 76 → b ≠ 82 → ∀ k, M4.1 b k = Mc.1 b k := fun b a1 a2 k => by
    rw [s2.1 b k (by first | omega | (dsimp only; omega)), hM3, wI_o a1, wI_o a1, wI_o a1]
  have eL : M4.2 = Mc.2 := by
    funext b k
    rw [s2.2 b k id, hM3, wI_2, wI_2, wI_2]
  have hM4 : bM t n T 0 M4 := by
    obtain ⟨a1, a2, a3, a4⟩ := m6
    refine ⟨⟨a1, a2, a3, fun j hj => ?_⟩, hn', fun j hj => (hP.2.2 j hj).2, ?_, ?_, ?_, Nat.zero_le _⟩
    · rw [eO 79 (by decide) (by decide), eO 78 (by decide) (by decide), eL]; exact a4 j hj
    · intro k hk
      rw [eL, m2.2.2 81 (by decide), wI_2]; exact hw k hk
    · rw [e76 7 (by decide) (by decide) (by decide)]; exact m4
    · rw [e76 8 (by decide) (by decide) (by decide)]; exact m5
  have eN : ∀ b, b ≠ 3 → b ≠ 2 → ∀ k, Nc.1 b k = Nb.1 b k := fun b a1 a2 k => by rw [r2.1 b a1, wI_o a2]
  have v22 : Nc.1 2 2 = 0 := by rw [r2.1 2 (by decide)]; exact wI_s
  have w76 : M4.1 76 13 = 0 ∧ M4.1 76 15 = 0 ∧ M4.1 76 16 = 0 := by
    rw [s2.1 76 13 (by first | omega | (dsimp only; omega)), s2.1 76 15 (by first | omega | (dsimp only; omega)), s2.1 76 16 (by first | omega | (dsimp only; omega)), hM3]
    refine ⟨?_, ?_, wI_s⟩
    · rw [wI_n (by decide), wI_n (by decide)]; exact wI_s
    · rw [wI_n (by decide)]; exact wI_s
  have hdX : dX t n (25 - c) 0 0 0 0 0 (fun _ => none) Nc M4 := by
    refine ⟨⟨4, by omega, by omega, ?_, s3 0 (by omega)⟩, ⟨4, by omega, by omega, ?_, s3 1 (by omega)⟩, ⟨0, by omega, by omega, ?_, s3 2 (by omega)⟩, ⟨?_, s3 3 (by omega)⟩, ⟨?_, s3 4 (by omega)⟩,
      ⟨by omega, fun j hj => by omega⟩, ⟨by omega, fun j hj => by omega⟩, ⟨by omega, by omega, ?_, w76.1⟩, ⟨?_, ?_, fun k hk => ?_⟩, fun k hk => ⟨fun l hl => by simp at hl, fun _ => ⟨?_, ?_, ?_⟩⟩⟩
    · rw [eN _ (by omega) (by omega)]; exact b3
    · rw [eN _ (by omega) (by omega)]; exact b4
    · rw [eN _ (by omega) (by omega)]; exact b5
    · rw [eN _ (by omega) (by omega)]; exact b6
    · rw [eN _ (by omega) (by omega)]; exact b7
    · rw [eN _ (by omega) (by omega)]; exact b8
    · rw [v22, b_0, w76.2.1]; simp
    · rw [v22, b_0, w76.2.2]; simp
    · rw [v22, b_0]; simp
    · rw [eN _ (by omega) (by omega)]; exact (b9 k hk).1
    · rw [eN _ (by omega) (by omega)]; exact (b9 k hk).2
    · rw [show 145 + k = 80 + (65 + k) by omega, s3 (65 + k) (by omega)]; unfold d82; rw [if_neg (by omega), if_neg (by omega)]
  have hT := hM4.T
  obtain ⟨r, N', M', z1, z2, z3, z4, z5⟩ := lines_ok hc T 0 0 hN hN Nc M4 (by omega) (hN_big (by omega)) (hN_big (by omega)) (Nat.le_refl _) r3 hM4 ⟨0, 0, 0, 0, _, hdX⟩
  have z1' : F_Reader_readAll_1 c hN (0 : Int32) (0 : Int32) Nc = B_Reader_readAll_2 c r N' := z1
  have FN : fr (PS0 (25 - c)) (PL (25 - c)) N (hn_wI N' 3 1 (0 : Int32)) := by
    have f1 : fr (PS0 (25 - c)) (PL (25 - c)) N Nb := b2.mono (fun b k y => by (try dsimp only at y); unfold PS0; omega) (fun _ _ y => y.elim)
    have f2 : fr (PS0 (25 - c)) (PL (25 - c)) Nb (hn_wI Nb 2 2 (0 : Int32)) := fr.wI (by unfold PS0; omega)
    have f3 : fr (PS0 (25 - c)) (PL (25 - c)) (hn_wI Nb 2 2 (0 : Int32)) Nc := fr.o3 r2 (fun k _ => by unfold PS0; omega) (fun k => by unfold PL; omega)
    have f4 : fr (PS0 (25 - c)) (PL (25 - c)) Nc N' := z3.mono (fun b k y => by unfold PS at y; unfold PS0; omega) (fun _ _ y => y)
    exact (((f1.trans f2).trans f3).trans f4).trans (fr.wI (by unfold PS0; omega))
  have FM : fr MS0 ML0 M M' := by
    have g1 : fr MS0 ML0 M (hn_wI M 76 0 (0 : Int32)) := fr.wI (by unfold MS0; omega)
    have g2 : fr MS0 ML0 (hn_wI M 76 0 (0 : Int32)) Mc := by
      refine ⟨fun b k hb => ?_, fun b k hb => ?_⟩
      · unfold MS0 at hb
        by_cases q : b = 76
        · subst q; exact m2.2.1 k (by omega) (by omega) (by omega) (by omega)
        · rw [m2.1 b q (by omega) (by omega)]
      · unfold ML0 at hb
        rw [m2.2.2 b (by omega)]
    have g3 : fr MS0 ML0 Mc M3 := by
      rw [hM3]
      exact ((fr.wI (by unfold MS0; omega)).trans (fr.wI (by unfold MS0; omega))).trans (fr.wI (by unfold MS0; omega))
    have g4 : fr MS0 ML0 M3 M4 := s2.mono (fun b k y => by (try dsimp only at y); unfold MS0; omega) (fun _ _ y => y.elim)
    have g5 : fr MS0 ML0 M4 M' := z4.mono (fun b k y => by unfold MS at y; unfold MS0; omega) (fun b k y => by unfold ML at y; unfold ML0; omega)
    exact (((g1.trans g2).trans g3).trans g4).trans g5
  have v2 : M'.1 76 2 = 0 := by rw [z4.1 76 2 (by unfold MS; omega), e76 2 (by decide) (by decide) (by decide)]; exact m3
  rcases z5 with ⟨rfl, u1, i', g, p, e, f, law, u2, u3⟩ | ⟨f, i1, j1, j2, j3, j4, j5, j6⟩
  · refine ⟨0, hn_wI N' 3 1 (0 : Int32), M', ?_, ?_, FN, FM, wI_s, v2, fun _ => ⟨i', g, p, e, f, law, u2, ?_⟩⟩
    · rw [cA, z1']; simp only [B_Reader_readAll_2, hl_e, ↓reduceIte]
    · rw [mA, z2, if_pos rfl]
      have : (0 : Int32) ≤ 0 := by decide
      simp only [B_Md_chapel_4, u1, this, ↓reduceIte]
    · have FF : fr (fun b _ => b = 3) NL N' (hn_wI N' 3 1 (0 : Int32)) := fr.wI rfl
      have GG : fr NL NL M' M' := fr.refl
      obtain ⟨x0, x1, x2, x3, x4, x5, x6, x7, x8, x9⟩ := u3
      refine ⟨x0.fr FF GG (by first | omega | (dsimp only; omega)) id, x1.fr FF GG (by first | omega | (dsimp only; omega)) id, x2.fr FF GG (by first | omega | (dsimp only; omega)) id, ⟨?_, x3.2⟩, ⟨?_, x4.2⟩,
        x5.fr FF GG (fun j _ => ⟨by first | omega | (dsimp only; omega), by first | omega | (dsimp only; omega), id⟩) (fun j _ => ⟨id, id, id⟩), x6.fr (Nat.le_refl _) FF GG (fun j b _ _ _ => by first | omega | (dsimp only; omega)) (fun j b _ _ _ => id), ⟨x7.1, x7.2.1, ?_, x7.2.2.2⟩, x8.fr FF GG (by first | omega | (dsimp only; omega)) id id,
        x9.fr (Nat.le_refl _) (Nat.le_refl _) FF GG (fun j _ => ⟨by first | omega | (dsimp only; omega), by first | omega | (dsimp only; omega)⟩) (fun j _ => by first | omega | (dsimp only; omega)) (fun j _ => id) (fun j _ => ⟨id, id⟩)⟩
      · rw [wI_o (by omega)]; exact x3.1
      · rw [wI_o (by omega)]; exact x4.1
      · rw [wI_o (by omega)]; exact x7.2.2.1
  · have sb := sT_b (t := t) (n := n) i1
    have nz := nI_f5 j1 j2
    have ea : nI f + (16 : Int32) * nI (sT t n i1) = nI (f + 16 * sT t n i1) := by rw [show (16 : Int32) = nI 16 from rfl, nI_m, nI_a]
    have b8' := bad8 (x := f + 16 * sT t n i1) (by omega) (by omega)
    have e33 : (hn_wI N' 3 1 (0 : Int32)).1 3 3 = nI (sT t n i1) := by rw [wI_n (by decide)]; exact j5
    refine ⟨nI (f + 16 * sT t n i1), hn_wI N' 3 1 (0 : Int32), M', ?_, ?_, FN, FM, wI_s, v2, fun y => absurd y b8'⟩
    · rw [cA, z1', j3]; simp only [B_Reader_readAll_2, hl_e, nz, ↓reduceIte, e33, ea]
    · rw [mA, z2, if_neg b8']
      have gz : ¬ nI (f + 16 * sT t n i1) ≤ (0 : Int32) := fun y => by have := (nI_lei (b := 0) (by omega) (by decide)).mp y; omega
      simp only [B_Md_chapel_4, j6, gz, ↓reduceIte]
