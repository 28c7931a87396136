/-! CHAPEL: how both end -/
theorem md_c (c c' : Nat) (M : hn) : F_Md_chapel c M = F_Md_chapel c' M := rfl
def eN0 (N : hn) : hn := (N.1, fun b k => if b = 35 ∧ k < 2496 then 0 else N.2 b k)
def F_Ps_chapel (c : Nat) (N : hn) : Option (Int32 × hn) :=
  hbN (F_Reader_readAll c N) fun r N1 => (if r = 0 then hvN (F_Hold_begin (25 - c) 36 (25 - c) (eN0 (hn_wI N1 19 3 (-1 : Int32)))) fun N4 =>
  hvN (F_History_forget (25 - c) N4) fun N5 => hvN (F_Rents_forget (25 - c) N5) fun N6 => some (r, hn_wI N6 1 9 (0 : Int32)) else some (r, N1))
theorem hbeg_ok {c D p : Nat} {N : hn} (hD : D ≤ 20) (h4 : N.1 D 4 = nI p) (hp : p ≤ 12) : ∃ N', F_Hold_begin c 36 D N = some N' ∧ fr (fun b k => (b = 36 ∧ (k = 1 ∨ k = 2 ∨ k = 5)) ∨ b = 37) NL N N' ∧ N'.1 36 5 = nI p ∧ N'.1 36 1 = 0 ∧ N'.1 36 2 = 0 ∧ ∀ q, q < 12 → N'.1 37 q = if q < p then N.1 (D + 6) q else -1 := by
  obtain ⟨X, hX⟩ : ∃ X : hn, X = hn_wI (hn_wI (hn_wI N 36 5 (nI p)) 36 1 (0 : Int32)) 36 2 (0 : Int32) := ⟨_, rfl⟩
  have FX : fr (fun b k => (b = 36 ∧ (k = 1 ∨ k = 2 ∨ k = 5)) ∨ b = 37) NL N X := by
    rw [hX]
    exact ((fr.wI (Or.inl ⟨rfl, Or.inr (Or.inr rfl)⟩)).trans (fr.wI (Or.inl ⟨rfl, Or.inl rfl⟩))).trans (fr.wI (Or.inl ⟨rfl, Or.inr (Or.inl rfl)⟩))
  have x5 : X.1 36 5 = nI p := by rw [hX, wI_n (by decide), wI_n (by decide)]; exact wI_s
  have x1 : X.1 36 1 = 0 := by rw [hX, wI_n (by decide)]; exact wI_s
  have x2 : X.1 36 2 = 0 := by rw [hX]; exact wI_s
  have e0 : F_Hold_begin c 36 D N = F_Hold_begin_1 c hN 36 D (0 : Int32) X := by simp only [F_Hold_begin, h4, hl_e, ← hX]
  rw [e0]
  refine it_wp (B := B_Hold_begin_1 c) (z := fun _ _ _ _ => none) (fun K j (s : hn) => K 36 D (nI j) s) 12
    (fun j s => fr (fun b k => (b = 36 ∧ (k = 1 ∨ k = 2 ∨ k = 5)) ∨ b = 37) NL N s ∧ s.1 36 5 = nI p ∧ s.1 36 1 = 0 ∧ s.1 36 2 = 0 ∧ ∀ q, q < j → s.1 37 q = if q < p then N.1 (D + 6) q else -1)
    (Q := fun y => ∃ N', y = some N' ∧ fr (fun b k => (b = 36 ∧ (k = 1 ∨ k = 2 ∨ k = 5)) ∨ b = 37) NL N N' ∧ N'.1 36 5 = nI p ∧ N'.1 36 1 = 0 ∧ N'.1 36 2 = 0 ∧ ∀ q, q < 12 → N'.1 37 q = if q < p then N.1 (D + 6) q else -1)
    ?_ ?_ (n := hN) (k := 0) (s := X) (Nat.zero_le _) (hN_big (by omega)) ⟨FX, x5, x1, x2, fun q hq => by omega⟩
  · intro K s hs
    have g : (12 : Int32) ≤ nI 12 := by decide
    exact ⟨s, by simp only [B_Hold_begin_1, g, ↓reduceIte], hs⟩
  · intro K j s hj ⟨h1, h2, h3, h5, h6⟩
    right
    have g : ¬ (12 : Int32) ≤ nI j := nI_ge (b := 12) hj (by decide)
    have xj : hn_ix 12 (nI j) = true := ix_ok (by omega) (by decide)
    have xb : hm_ib S0 (36 + 1) .int (nI j) = true := by rw [show hm_ib S0 (36 + 1) .int (nI j) = hn_ix 12 (nI j) from ib_37]; exact xj
    have cj : (nI j).toNatClampNeg = j := nI_lt31 (by omega)
    have lp : (nI p ≤ nI j) ↔ p ≤ j := nI_lei (by omega) (by omega)
    have sD : s.1 (D + 6) j = N.1 (D + 6) j := h1.1 _ _ (by first | omega | (dsimp only; omega))
    refine ⟨hn_wI s 37 j (if j < p then N.1 (D + 6) j else -1), ⟨h1.trans (fr.wI (Or.inr rfl)), ?_, ?_, ?_, fun q hq => ?_⟩, ?_⟩
    · rw [wI_o (by decide)]; exact h2
    · rw [wI_o (by decide)]; exact h3
    · rw [wI_o (by decide)]; exact h5
    · by_cases y : q = j
      · subst y; exact wI_s
      · rw [wI_n y]; exact h6 q (by omega)
    · by_cases y : p ≤ j
      · rw [if_neg (by omega)]
        simp only [B_Hold_begin_1, B_Hold_begin_2, g, ↓reduceIte, h2, lp, y, xb, hg_T, cj, hl_e, ← nI_succ]
      · rw [if_pos (by omega)]
        simp only [B_Hold_begin_1, B_Hold_begin_2, g, ↓reduceIte, h2, lp, y, xj, xb, hg_T, cj, sD, hl_e, ← nI_succ]
/-! the reference's four copies -/
def E8 (b _k : Nat) : Prop := b = 89
theorem end8 {c : Nat} {M : hn} : ∃ M', F_Md_chapel_8 c hN (0 : Int32) M = some (0, M') ∧ fr E8 NL M M' ∧ ∀ m, m < 4 → M'.1 89 m = 0 := by
  refine it_wp (B := B_Md_chapel_8 c) (z := fun _ _ => none) (fun K j (s : hn) => K (nI j) s) 4
    (fun j s => fr E8 NL M s ∧ ∀ m, m < j → s.1 89 m = 0)
    (Q := fun y => ∃ M', y = some (0, M') ∧ fr E8 NL M M' ∧ ∀ m, m < 4 → M'.1 89 m = 0) ?_ ?_ (n := hN) (k := 0) (s := M) (Nat.zero_le _) (hN_big (by omega)) ⟨fr.refl, fun q hq => by omega⟩
  · intro K s hs
    have g : (4 : Int32) ≤ nI 4 := by decide
    exact ⟨s, by simp only [B_Md_chapel_8, g, ↓reduceIte], hs⟩
  · intro K j s hj ⟨h1, h2⟩
    right
    have g : ¬ (4 : Int32) ≤ nI j := nI_ge (b := 4) hj (by decide)
    have xj : hn_ix 4 (nI j) = true := ix_ok (by omega) (by decide)
    have cj : (nI j).toNatClampNeg = j := nI_lt31 (by omega)
    have vz : vp_nar .boolean (0 : Int32) = 0 := by decide
    refine ⟨hn_wI s 89 j 0, ⟨h1.trans (fr.wI rfl), fun q hq => ?_⟩, ?_⟩
    · by_cases y : q = j
      · subst y; exact wI_s
      · rw [wI_n y]; exact h2 q (by omega)
    · simp only [B_Md_chapel_8, g, ↓reduceIte, xj, hg_T, cj, vz, hl_e, ← nI_succ]
def E7 (b k : Nat) : Prop := b = 89 ∨ b = 88 ∨ (b = 76 ∧ k = 21)
theorem end7 {c : Nat} {M : hn} : ∃ M', F_Md_chapel_7 c hN (0 : Int32) M = some (0, M') ∧ fr E7 NL M M' ∧ (∀ m, m < 4 → M'.1 89 m = 0) ∧ M'.1 76 21 = 0 ∧ M'.1 88 12 = 0 ∧ M'.1 88 13 = 0 ∧ ∀ q, q < 12 → M'.1 88 q = M.1 82 (19 + 4 * q) := by
  refine it_wp (B := B_Md_chapel_7 c) (z := fun _ _ => none) (fun K j (s : hn) => K (nI j) s) 12
    (fun j s => fr E7 NL M s ∧ ∀ q, q < j → s.1 88 q = M.1 82 (19 + 4 * q))
    (Q := fun y => ∃ M', y = some (0, M') ∧ fr E7 NL M M' ∧ (∀ m, m < 4 → M'.1 89 m = 0) ∧ M'.1 76 21 = 0 ∧ M'.1 88 12 = 0 ∧ M'.1 88 13 = 0 ∧ ∀ q, q < 12 → M'.1 88 q = M.1 82 (19 + 4 * q)) ?_ ?_ (n := hN) (k := 0) (s := M) (Nat.zero_le _) (hN_big (by omega)) ⟨fr.refl, fun q hq => by omega⟩
  · intro K s ⟨h1, h2⟩
    have g : (12 : Int32) ≤ nI 12 := by decide
    have x12 : hn_ix 1000 (12 : Int32) = true := by decide
    have x13 : hn_ix 1000 (13 : Int32) = true := by decide
    have t12 : (12 : Int32).toNatClampNeg = 12 := rfl
    have t13 : (13 : Int32).toNatClampNeg = 13 := rfl
    obtain ⟨M', d1, d2, d3⟩ := end8 (c := c) (M := hn_wI (hn_wI (hn_wI s 88 12 (0 : Int32)) 88 13 (0 : Int32)) 76 21 (0 : Int32))
    refine ⟨M', by simp only [B_Md_chapel_7, g, ↓reduceIte, x12, x13, hg_T, t12, t13, hl_e, d1], ?_, d3, ?_, ?_, ?_, fun q hq => ?_⟩
    · exact (((h1.trans (fr.wI (by unfold E7; omega))).trans (fr.wI (by unfold E7; omega))).trans (fr.wI (by unfold E7; omega))).trans (d2.mono (fun b k y => by unfold E8 at y; unfold E7; omega) (fun _ _ y => y))
    · rw [d2.1 _ _ (by unfold E8; omega)]; exact wI_s
    · rw [d2.1 _ _ (by unfold E8; omega), wI_o (by decide), wI_n (by decide)]; exact wI_s
    · rw [d2.1 _ _ (by unfold E8; omega), wI_o (by decide)]; exact wI_s
    · rw [d2.1 _ _ (by unfold E8; omega), wI_o (by decide), wI_n (by omega), wI_n (by omega)]; exact h2 q hq
  · intro K j s hj ⟨h1, h2⟩
    right
    have g : ¬ (12 : Int32) ≤ nI j := nI_ge (b := 12) hj (by decide)
    have e1 : ((17 : Int32) + ((4 : Int32) * nI j)) + (2 : Int32) = nI (19 + 4 * j) := by
      rw [show (17 : Int32) = nI 17 from rfl, show (4 : Int32) = nI 4 from rfl, show (2 : Int32) = nI 2 from rfl, nI_m, nI_a, nI_a]; exact congrArg nI (by omega)
    have e2 : (0 : Int32) + nI j = nI j := by rw [show (0 : Int32) = nI 0 from rfl, nI_a, Nat.zero_add]
    have x1 : hn_ix 160 (nI (19 + 4 * j)) = true := ix_ok (by omega) (by decide)
    have c1 : (nI (19 + 4 * j)).toNatClampNeg = 19 + 4 * j := nI_lt31 (by omega)
    have xj : hn_ix 1000 (nI j) = true := ix_ok (by omega) (by decide)
    have cj : (nI j).toNatClampNeg = j := nI_lt31 (by omega)
    refine ⟨hn_wI s 88 j (s.1 82 (19 + 4 * j)), ⟨h1.trans (fr.wI (by unfold E7; omega)), fun q hq => ?_⟩, ?_⟩
    · by_cases y : q = j
      · subst y; rw [wI_s, h1.1 _ _ (by unfold E7; omega)]
      · rw [wI_n y]; exact h2 q (by omega)
    · simp only [B_Md_chapel_7, g, ↓reduceIte, e1, e2, x1, xj, hg_T, c1, cj, hl_e, ← nI_succ]
def E6 (b k : Nat) : Prop := b = 89 ∨ b = 88 ∨ (b = 76 ∧ k = 21) ∨ ((b = 83 ∨ b = 84) ∧ k < 1100)
theorem end6 {c f : Nat} {M : hn} (h13 : M.1 76 13 = nI f) (hf : f ≤ 1001) : ∃ M', F_Md_chapel_6 c hN (0 : Int32) M = some (0, M') ∧ fr E6 NL M M' ∧ (∀ m, m < 4 → M'.1 89 m = 0) ∧ M'.1 76 21 = 0 ∧ M'.1 88 12 = 0 ∧ M'.1 88 13 = 0 ∧ (∀ q, q < 12 → M'.1 88 q = M.1 82 (19 + 4 * q)) ∧
    ∀ j, j < f → M'.1 83 j = M.1 83 (1100 + j) ∧ M'.1 84 j = M.1 84 (1100 + j) := by
  refine it_wp (B := B_Md_chapel_6 c) (z := fun _ _ => none) (fun K j (s : hn) => K (nI j) s) f
    (fun j s => fr E6 NL M s ∧ ∀ q, q < j → s.1 83 q = M.1 83 (1100 + q) ∧ s.1 84 q = M.1 84 (1100 + q))
    (Q := fun y => ∃ M', y = some (0, M') ∧ fr E6 NL M M' ∧ (∀ m, m < 4 → M'.1 89 m = 0) ∧ M'.1 76 21 = 0 ∧ M'.1 88 12 = 0 ∧ M'.1 88 13 = 0 ∧ (∀ q, q < 12 → M'.1 88 q = M.1 82 (19 + 4 * q)) ∧ ∀ j, j < f → M'.1 83 j = M.1 83 (1100 + j) ∧ M'.1 84 j = M.1 84 (1100 + j)) ?_ ?_ (n := hN) (k := 0) (s := M) (Nat.zero_le _) (hN_big (by omega)) ⟨fr.refl, fun q hq => by omega⟩
  · intro K s ⟨h1, h2⟩
    have e13 : s.1 76 13 = nI f := by rw [h1.1 _ _ (by unfold E6; omega)]; exact h13
    have g : nI f ≤ nI f := (nI_lei (by omega) (by omega)).mpr (Nat.le_refl _)
    obtain ⟨M', d1, d2, d3, d4, d5, d6, d7⟩ := end7 (c := c) (M := s)
    refine ⟨M', by simp only [B_Md_chapel_6, e13, g, ↓reduceIte, d1], h1.trans (d2.mono (fun b k y => by unfold E7 at y; unfold E6; omega) (fun _ _ y => y)), d3, d4, d5, d6, fun q hq => ?_, fun j hj => ?_⟩
    · rw [d7 q hq, h1.1 _ _ (by unfold E6; omega)]
    · rw [d2.1 _ _ (by unfold E7; omega), d2.1 _ _ (by unfold E7; omega)]; exact h2 j hj
  · intro K j s hj ⟨h1, h2⟩
    right
    have e13 : s.1 76 13 = nI f := by rw [h1.1 _ _ (by unfold E6; omega)]; exact h13
    have g : ¬ nI f ≤ nI j := fun z => by have := (nI_lei (by omega) (by omega)).mp z; omega
    have e1 : (1100 : Int32) + nI j = nI (1100 + j) := by rw [show (1100 : Int32) = nI 1100 from rfl, nI_a]
    have x1 : hn_ix 2200 (nI (1100 + j)) = true := ix_ok (by omega) (by decide)
    have c1 : (nI (1100 + j)).toNatClampNeg = 1100 + j := nI_lt31 (by omega)
    have xj : hn_ix 2200 (nI j) = true := ix_ok (by omega) (by decide)
    have cj : (nI j).toNatClampNeg = j := nI_lt31 (by omega)
    have r83 : s.1 83 (1100 + j) = M.1 83 (1100 + j) := h1.1 _ _ (by unfold E6; omega)
    have r84 : (hn_wI s 83 j (M.1 83 (1100 + j))).1 84 (1100 + j) = M.1 84 (1100 + j) := by rw [wI_o (by decide)]; exact h1.1 _ _ (by unfold E6; omega)
    refine ⟨hn_wI (hn_wI s 83 j (M.1 83 (1100 + j))) 84 j (M.1 84 (1100 + j)), ⟨(h1.trans (fr.wI (by unfold E6; omega))).trans (fr.wI (by unfold E6; omega)), fun q hq => ?_⟩, ?_⟩
    · by_cases y : q = j
      · subst y; exact ⟨by rw [wI_o (by decide)]; exact wI_s, wI_s⟩
      · rw [wI_o (by decide), wI_n y, wI_n y, wI_o (by decide)]; exact h2 q (by omega)
    · simp only [B_Md_chapel_6, e13, g, ↓reduceIte, e1, x1, xj, hg_T, c1, cj, r83, hl_e, r84, ← nI_succ]
def E5 (b k : Nat) : Prop := b = 89 ∨ b = 88 ∨ (b = 76 ∧ k = 21) ∨ ((b = 83 ∨ b = 84) ∧ k < 1100) ∨ (b = 82 ∧ k < 80)
theorem end5 {c f : Nat} {M : hn} (h13 : M.1 76 13 = nI f) (hf : f ≤ 1001) : ∃ M', F_Md_chapel_5 c hN (0 : Int32) M = some (0, M') ∧ fr E5 NL M M' ∧ (∀ m, m < 4 → M'.1 89 m = 0) ∧ M'.1 76 21 = 0 ∧ M'.1 88 12 = 0 ∧ M'.1 88 13 = 0 ∧ (∀ q, q < 12 → M'.1 88 q = M.1 82 (99 + 4 * q)) ∧
    (∀ j, j < f → M'.1 83 j = M.1 83 (1100 + j) ∧ M'.1 84 j = M.1 84 (1100 + j)) ∧ ∀ k, k < 80 → M'.1 82 k = M.1 82 (80 + k) := by
  refine it_wp (B := B_Md_chapel_5 c) (z := fun _ _ => none) (fun K j (s : hn) => K (nI j) s) 80
    (fun j s => fr E5 NL M s ∧ ∀ q, q < j → s.1 82 q = M.1 82 (80 + q))
    (Q := fun y => ∃ M', y = some (0, M') ∧ fr E5 NL M M' ∧ (∀ m, m < 4 → M'.1 89 m = 0) ∧ M'.1 76 21 = 0 ∧ M'.1 88 12 = 0 ∧ M'.1 88 13 = 0 ∧ (∀ q, q < 12 → M'.1 88 q = M.1 82 (99 + 4 * q)) ∧ (∀ j, j < f → M'.1 83 j = M.1 83 (1100 + j) ∧ M'.1 84 j = M.1 84 (1100 + j)) ∧ ∀ k, k < 80 → M'.1 82 k = M.1 82 (80 + k)) ?_ ?_ (n := hN) (k := 0) (s := M) (Nat.zero_le _) (hN_big (by omega)) ⟨fr.refl, fun q hq => by omega⟩
  · intro K s ⟨h1, h2⟩
    have e13 : s.1 76 13 = nI f := by rw [h1.1 _ _ (by unfold E5; omega)]; exact h13
    have g : (80 : Int32) ≤ nI 80 := by decide
    obtain ⟨M', d1, d2, d3, d4, d5, d6, d7, d8⟩ := end6 (c := c) (M := s) e13 hf
    refine ⟨M', by simp only [B_Md_chapel_5, g, ↓reduceIte, d1], h1.trans (d2.mono (fun b k y => by unfold E6 at y; unfold E5; omega) (fun _ _ y => y)), d3, d4, d5, d6, fun q hq => ?_, fun j hj => ?_, fun k hk => ?_⟩
    · rw [d7 q hq, h2 _ (by omega)]; exact congrArg _ (by omega)
    · rw [(d8 j hj).1, (d8 j hj).2, h1.1 _ _ (by unfold E5; omega), h1.1 _ _ (by unfold E5; omega)]; exact ⟨rfl, rfl⟩
    · rw [d2.1 _ _ (by unfold E6; omega)]; exact h2 k hk
  · intro K j s hj ⟨h1, h2⟩
    right
    have g : ¬ (80 : Int32) ≤ nI j := nI_ge (b := 80) hj (by decide)
    have e1 : (80 : Int32) + nI j = nI (80 + j) := by rw [show (80 : Int32) = nI 80 from rfl, nI_a]
    have x1 : hn_ix 160 (nI (80 + j)) = true := ix_ok (by omega) (by decide)
    have c1 : (nI (80 + j)).toNatClampNeg = 80 + j := nI_lt31 (by omega)
    have xj : hn_ix 160 (nI j) = true := ix_ok (by omega) (by decide)
    have cj : (nI j).toNatClampNeg = j := nI_lt31 (by omega)
    have r82 : s.1 82 (80 + j) = M.1 82 (80 + j) := h1.1 _ _ (by unfold E5; omega)
    refine ⟨hn_wI s 82 j (M.1 82 (80 + j)), ⟨h1.trans (fr.wI (by unfold E5; omega)), fun q hq => ?_⟩, ?_⟩
    · by_cases y : q = j
      · subst y; exact wI_s
      · rw [wI_n y]; exact h2 q (by omega)
    · simp only [B_Md_chapel_5, g, ↓reduceIte, e1, x1, xj, hg_T, c1, cj, r82, hl_e, ← nI_succ]
