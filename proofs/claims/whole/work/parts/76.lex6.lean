/-! CHAPEL: all tokens of the reference -/
def offT (N N' : hn) : Prop := (∀ b, b ≠ 76 → b ≠ 78 → b ≠ 79 → N'.1 b = N.1 b) ∧ (∀ k, k ≠ 2 → k ≠ 3 → k ≠ 7 → k ≠ 8 → N'.1 76 k = N.1 76 k) ∧ (∀ b, b ≠ 80 → N'.2 b = N.2 b)
theorem offT.refl {N : hn} : offT N N := ⟨fun _ _ _ _ => rfl, fun _ _ _ _ _ => rfl, fun _ _ => rfl⟩
theorem offT.trans {N N1 N2 : hn} (h : offT N N1) (h2 : offT N1 N2) : offT N N2 := ⟨fun b a1 a2 a3 => (h2.1 b a1 a2 a3).trans (h.1 b a1 a2 a3), fun k a1 a2 a3 a4 => (h2.2.1 k a1 a2 a3 a4).trans (h.2.1 k a1 a2 a3 a4), fun b a => (h2.2.2 b a).trans (h.2.2 b a)⟩
theorem offT.w {N : hn} {a i : Nat} {v : Int32} (ha : a = 78 ∨ a = 79) : offT N (hn_wI N a i v) := ⟨fun b _ _ _ => wI_o (by omega), fun k _ _ _ _ => by rw [wI_o (by omega)], fun _ _ => rfl⟩
theorem offT.w76 {N : hn} {i : Nat} {v : Int32} (hi : i = 2 ∨ i = 3 ∨ i = 7 ∨ i = 8) : offT N (hn_wI N 76 i v) := ⟨fun b a1 _ _ => wI_o a1, fun k _ _ _ _ => wI_n (by omega), fun _ _ => rfl⟩
theorem offT.tk {N : hn} {i s v : Nat} : offT N (tkM N i s v) := (offT.w (N := N) (i := i) (v := nI s) (Or.inl rfl)).trans ⟨fun _ _ _ _ => rfl, fun _ _ _ _ _ => rfl, fun b hb => wL_o hb⟩
def tkR (t : Nat → Nat) (n T : Nat) (N : hn) : Prop := T ≤ n ∧ sT t n T = n ∧ (∀ j, j < T → sT t n j < n) ∧ ∀ j, j ≤ T → N.1 79 j = nI (sT t n j) ∧ N.1 78 j = nI (so t n (sT t n j)) ∧ (j < T → N.2 80 j = lN (va t n (sT t n j)))
theorem skp_y {t : Nat → Nat} {n q : Nat} (hq : q < n) (hb : cB (t q) = true) : skp t n q = skp t n (q + 1) := by
  obtain ⟨m, hm⟩ : ∃ m, n - q = m + 1 := ⟨n - q - 1, by omega⟩
  unfold skp
  rw [hm, rE, if_pos hb, show n - (q + 1) = m by omega]
theorem skp_n {t : Nat → Nat} {n q : Nat} (hb : q < n → cB (t q) = false) : skp t n q = q := by
  unfold skp
  cases e : n - q with
  | zero => rfl
  | succ m => rw [rE, if_neg (by rw [hb (by omega)]; decide)]
theorem cutAll_ok {c n : Nat} {t : Nat → Nat} {N : hn} (hn' : n ≤ 1000) (h2 : N.1 76 2 = nI n) (ht : ∀ i, i < n → N.1 77 i = nI (t i) ∧ t i < 128) :
    ∃ T N', F_Md_cutAll c N = some N' ∧ offT N N' ∧ N'.1 76 2 = 0 ∧ N'.1 76 7 = 0 ∧ N'.1 76 8 = 0 ∧ tkR t n T N' := by
  simp only [F_Md_cutAll, hl_e, h2]
  obtain ⟨X, hX⟩ : ∃ X : hn, X = hn_wI (hn_wI N 76 3 (nI n)) 76 2 (0 : Int32) := ⟨_, rfl⟩
  have oX : offT N X := by rw [hX]; exact (offT.w76 (by omega)).trans (offT.w76 (by omega))
  have x3 : X.1 76 3 = nI n := by rw [hX, wI_n (by decide), wI_s]
  have x2 : X.1 76 2 = 0 := by rw [hX, wI_s]
  rw [← hX]
  refine it_ms (B := B_Md_cutAll_1 c) (z := fun _ _ _ => none) (fun K (s : Nat × Nat × hn) => K (nI s.1) (nI s.2.1) s.2.2)
    (fun m s => s.1 ≤ s.2.1 ∧ s.2.1 ≤ n ∧ m = n - s.2.1 ∧ skp t n s.2.1 = sT t n s.1 ∧ offT N s.2.2 ∧ s.2.2.1 76 3 = nI n ∧ s.2.2.1 76 2 = 0 ∧
      ∀ j, j < s.1 → sT t n j < n ∧ s.2.2.1 79 j = nI (sT t n j) ∧ s.2.2.1 78 j = nI (so t n (sT t n j)) ∧ s.2.2.2 80 j = lN (va t n (sT t n j)))
    (Q := fun x => ∃ T N', x = some N' ∧ offT N N' ∧ N'.1 76 2 = 0 ∧ N'.1 76 7 = 0 ∧ N'.1 76 8 = 0 ∧ tkR t n T N') ?_ (n := hN) (m := n) (s := (0, 0, X)) (hN_big (by omega)) ⟨Nat.le_refl _, Nat.zero_le _, by simp, rfl, oX, x3, x2, fun j hj => absurd hj (Nat.not_lt_zero j)⟩
  rintro K m ⟨i, q, s⟩ ⟨i1, i2, i3, i4, i5, i6, i7, i8⟩
  dsimp only at i1 i2 i3 i4 i5 i6 i7 i8 ⊢
  have x0 : hn_ix 1002 (nI i) = true := ix_ok (by omega) (by decide)
  have c0 : (nI i).toNatClampNeg = i := nI_lt31 (by omega)
  by_cases qe : q = n
  · left
    subst qe
    have g : nI q ≤ nI q := (nI_lei (by omega) (by omega)).mpr (Nat.le_refl _)
    have e4 : sT t q i = q := by rw [← i4]; exact skp_n (fun h => absurd h (Nat.lt_irrefl q))
    have w3 : (hn_wI s 78 i (0 : Int32)).1 76 3 = nI q := by rw [wI_o (by decide)]; exact i6
    refine ⟨i, hn_wI (hn_wI (hn_wI (hn_wI s 78 i (0 : Int32)) 79 i (nI q)) 76 7 (0 : Int32)) 76 8 (0 : Int32), ?_, ?_, ?_, ?_, ?_, i1, e4, fun j hj => (i8 j hj).1, ?_⟩
    · simp only [B_Md_cutAll_1, i6, g, ↓reduceIte, x0, hg_T, c0, hl_e, w3]
    · exact (((i5.trans (offT.w (by omega))).trans (offT.w (by omega))).trans (offT.w76 (by omega))).trans (offT.w76 (by omega))
    · rw [wI_n (by decide), wI_n (by decide), wI_o (by decide), wI_o (by decide)]; exact i7
    · rw [wI_n (by decide), wI_s]
    · rw [wI_s]
    · intro j hj
      rw [wI_o (by decide), wI_o (by decide), wI_2, wI_2, wI_2, wI_2]
      by_cases y : j = i
      · subst y
        refine ⟨by rw [wI_s, e4], ?_, fun z => absurd z (Nat.lt_irrefl j)⟩
        rw [wI_o (by decide), wI_o (by decide), wI_o (by decide), wI_s, e4]
        unfold so; rw [if_pos (Nat.le_refl _)]; rfl
      · obtain ⟨y1, y2, y3, y4⟩ := i8 j (by omega)
        refine ⟨by rw [wI_n y, wI_o (by decide)]; exact y2, ?_, fun _ => y4⟩
        rw [wI_o (by decide), wI_o (by decide), wI_o (by decide), wI_n y]; exact y3
  · right
    have hq : q < n := by omega
    have g : ¬ nI n ≤ nI q := fun z => by have := (nI_lei (by omega) (by omega)).mp z; omega
    have x1 : hn_ix 1000 (nI q) = true := ix_ok (by omega) (by decide)
    have c1 : (nI q).toNatClampNeg = q := nI_lt31 (by omega)
    have s77 : ∀ i, i < n → s.1 77 i = nI (t i) ∧ t i < 128 := fun i hi => by rw [i5.1 77 (by decide) (by decide) (by decide)]; exact ht i hi
    obtain ⟨t1, t2⟩ := s77 q hq
    by_cases qb : cB (t q) = true
    · refine ⟨n - (q + 1), (i, q + 1, s), by omega, ⟨by dsimp only; omega, by dsimp only; omega, rfl, by dsimp only; rw [← skp_y hq qb]; exact i4, i5, i6, i7, i8⟩, ?_⟩
      simp only [cB, Bool.or_eq_true, decide_eq_true_eq] at qb
      rcases qb with e | e
      · have g1 : nI (t q) = (10 : Int32) := by rw [e]; rfl
        simp only [B_Md_cutAll_1, i6, g, ↓reduceIte, x1, hg_T, c1, hl_e, t1, g1, ← nI_succ]
      · have g1 : nI (t q) = (32 : Int32) := by rw [e]; rfl
        have g0 : ¬ (32 : Int32) = 10 := by decide
        simp only [B_Md_cutAll_1, i6, g, ↓reduceIte, x1, hg_T, c1, hl_e, t1, g1, g0, ← nI_succ]
    · have qb' : cB (t q) = false := by simpa using qb
      have eS : sT t n i = q := by rw [← i4]; exact skp_n (fun _ => qb')
      have eS' : sT t n (i + 1) = skp t n (tE t n q) := by rw [sT, eS, if_pos hq]
      obtain ⟨b1, b2⟩ := tE_b (t := t) hq
      have nb := qb
      simp only [cB, Bool.or_eq_true, decide_eq_true_eq] at nb
      have g1 : ¬ nI (t q) = (10 : Int32) := fun z => nb (Or.inl ((nI_eqi (b := 10) (by omega) (by decide)).mp z))
      have g2 : ¬ nI (t q) = (32 : Int32) := fun z => nb (Or.inr ((nI_eqi (b := 32) (by omega) (by decide)).mp z))
      have hY : tapM t n (hn_wI s 79 i (nI q)) := ⟨by rw [wI_o (by decide)]; exact i6, hn', fun j hj => by rw [wI_o (by decide)]; exact s77 j hj⟩
      have z1 : ¬ (1 : Int32) = 0 := by decide
      refine ⟨n - tE t n q, (i + 1, tE t n q, tkM (hn_wI s 79 i (nI q)) i (so t n q) (va t n q)), by omega, ⟨by dsimp only; omega, b2, rfl, eS'.symm, (i5.trans (offT.w (by omega))).trans offT.tk, ?_, ?_, ?_⟩, ?_⟩
      · show (hn_wI (hn_wI s 79 i (nI q)) 78 i (nI (so t n q))).1 76 3 = nI n
        rw [wI_o (by decide), wI_o (by decide)]; exact i6
      · show (hn_wI (hn_wI s 79 i (nI q)) 78 i (nI (so t n q))).1 76 2 = 0
        rw [wI_o (by decide), wI_o (by decide)]; exact i7
      · intro j hj
        show sT t n j < n ∧ (hn_wI (hn_wI s 79 i (nI q)) 78 i (nI (so t n q))).1 79 j = nI (sT t n j) ∧ (hn_wI (hn_wI s 79 i (nI q)) 78 i (nI (so t n q))).1 78 j = nI (so t n (sT t n j)) ∧ (hn_wL (hn_wI (hn_wI s 79 i (nI q)) 78 i (nI (so t n q))) 80 i (lN (va t n q))).2 80 j = lN (va t n (sT t n j))
        dsimp only at hj
        by_cases y : j = i
        · subst y
          refine ⟨by rw [eS]; exact hq, ?_, ?_, ?_⟩
          · rw [wI_o (by decide), wI_s, eS]
          · rw [wI_s, eS]
          · rw [wL_s, eS]
        · obtain ⟨y1, y2, y3, y4⟩ := i8 j (by omega)
          refine ⟨y1, ?_, ?_, ?_⟩
          · rw [wI_o (by decide), wI_n y]; exact y2
          · rw [wI_n y, wI_o (by decide)]; exact y3
          · rw [wL_n y]; exact y4
      · by_cases qL : cL (t q) = true
        · have cw := cut_word (c := c) hY hq (show i ≤ 1000 by omega) qL K
          simp only [B_Md_cutAll_1, i6, g, ↓reduceIte, x1, hg_T, c1, hl_e, t1, g1, g2, x0, c0, isL_m t2, qL, hbN_e, z1, cw]
        · have qL' : cL (t q) = false := by simpa using qL
          by_cases qD : cD (t q) = true
          · have cw := cut_num (c := c) hY hq (show i ≤ 1000 by omega) qL' qD K
            simp only [B_Md_cutAll_1, i6, g, ↓reduceIte, x1, hg_T, c1, hl_e, t1, g1, g2, x0, c0, isL_m t2, isD_m t2, qL', qD, Bool.false_eq_true, hbN_e, z1, cw]
          · have qD' : cD (t q) = false := by simpa using qD
            have eT : tE t n q = q + 1 := by unfold tE; rw [if_neg qL, if_neg qD]
            have eV : va t n q = t q := by unfold va; rw [if_neg qL, if_neg qD]
            by_cases qS : cS (t q) = true
            · have eO : so t n q = 3 := by unfold so; rw [if_neg (by omega), if_neg qL, if_neg qD, if_pos qS]
              have e3 : nI 3 = (3 : Int32) := rfl
              simp only [B_Md_cutAll_1, B_Md_cutAll_10, B_Md_cutAll_11, i6, g, ↓reduceIte, x1, hg_T, c1, hl_e, t1, g1, g2, x0, c0, isL_m t2, isD_m t2, isS_m _ t2, qL', qD', qS, Bool.false_eq_true, hbN_e, z1, eT, eV, eO, e3, tkM, nI_64 (show t q < 2147483648 by omega), ← nI_succ]
            · have qS' : cS (t q) = false := by simpa using qS
              have eO : so t n q = 4 := by unfold so; rw [if_neg (by omega), if_neg qL, if_neg qD, if_neg qS]
              have e3 : nI 4 = (4 : Int32) := rfl
              simp only [B_Md_cutAll_1, B_Md_cutAll_10, B_Md_cutAll_11, i6, g, ↓reduceIte, x1, hg_T, c1, hl_e, t1, g1, g2, x0, c0, isL_m t2, isD_m t2, isS_m _ t2, qL', qD', qS', Bool.false_eq_true, hbN_e, z1, eT, eV, eO, e3, tkM, nI_64 (show t q < 2147483648 by omega), ← nI_succ]
