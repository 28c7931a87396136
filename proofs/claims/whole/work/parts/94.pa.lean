/-! CHAPEL: the line of a pane: its parts -/
theorem hasPane_hit {c D p j0 : Nat} {v1 v2 : Int32} {N : hn} (h4 : N.1 D 4 = nI p) (hp : p ≤ 12) (hj : j0 < p) (h1 : N.1 (D + 4) j0 = v1) (h2 : N.1 (D + 5) j0 = v2) : F_Chapel_hasPaneAt c D v1 v2 N = some (1, N) := by
  refine it_wp (B := B_Chapel_hasPaneAt_1 c) (z := fun _ _ _ _ _ => none) (fun K j (_ : Unit) => K D v1 v2 (nI j) N) p
    (fun j _ => j ≤ j0) (Q := fun y => y = some (1, N)) ?_ ?_ (n := hN) (k := 0) (s := ()) (Nat.zero_le _) (hN_big (by omega)) (Nat.zero_le _)
  · intro K _ h; omega
  · intro K j _ hj' hle
    have g0 : ¬ nI p ≤ nI j := fun z => by have := (nI_lei (by omega) (by omega)).mp z; omega
    have g6 : ¬ (12 : Int32) ≤ nI j := nI_ge (b := 12) (by omega) (by decide)
    have x1 : hn_ix 12 (nI j) = true := ix_ok (by omega) (by decide)
    have c1 : (nI j).toNatClampNeg = j := nI_lt31 (by omega)
    by_cases q : j = j0
    · left
      subst q
      simp only [B_Chapel_hasPaneAt_1, h4, g0, g6, ↓reduceIte, x1, hg_T, c1, h1, h2]
    · by_cases a1 : N.1 (D + 4) j = v1
      · by_cases a2 : N.1 (D + 5) j = v2
        · left
          simp only [B_Chapel_hasPaneAt_1, h4, g0, g6, ↓reduceIte, x1, hg_T, c1, a1, a2]
        · right
          exact ⟨(), by omega, by simp only [B_Chapel_hasPaneAt_1, h4, g0, g6, ↓reduceIte, x1, hg_T, c1, a1, a2, ← nI_succ]⟩
      · right
        exact ⟨(), by omega, by simp only [B_Chapel_hasPaneAt_1, h4, g0, g6, ↓reduceIte, x1, hg_T, c1, a1, ← nI_succ]⟩
theorem hasPane_miss {c D p : Nat} {v1 v2 : Int32} {N : hn} (h4 : N.1 D 4 = nI p) (hp : p ≤ 12) (hm : ∀ j, j < p → ¬ (N.1 (D + 4) j = v1 ∧ N.1 (D + 5) j = v2)) : F_Chapel_hasPaneAt c D v1 v2 N = some (0, N) := by
  refine it_wp (B := B_Chapel_hasPaneAt_1 c) (z := fun _ _ _ _ _ => none) (fun K j (_ : Unit) => K D v1 v2 (nI j) N) p
    (fun _ _ => True) (Q := fun y => y = some (0, N)) ?_ ?_ (n := hN) (k := 0) (s := ()) (Nat.zero_le _) (hN_big (by omega)) trivial
  · intro K _ _
    have g0 : nI p ≤ nI p := (nI_lei (by omega) (by omega)).mpr (Nat.le_refl _)
    simp only [B_Chapel_hasPaneAt_1, h4, g0, ↓reduceIte]
  · intro K j _ hj' _
    right
    have g0 : ¬ nI p ≤ nI j := fun z => by have := (nI_lei (by omega) (by omega)).mp z; omega
    have g6 : ¬ (12 : Int32) ≤ nI j := nI_ge (b := 12) (by omega) (by decide)
    have x1 : hn_ix 12 (nI j) = true := ix_ok (by omega) (by decide)
    have c1 : (nI j).toNatClampNeg = j := nI_lt31 (by omega)
    by_cases a1 : N.1 (D + 4) j = v1
    · have a2 : ¬ N.1 (D + 5) j = v2 := fun y => hm j hj' ⟨a1, y⟩
      exact ⟨(), trivial, by simp only [B_Chapel_hasPaneAt_1, h4, g0, g6, ↓reduceIte, x1, hg_T, c1, a1, a2, ← nI_succ]⟩
    · exact ⟨(), trivial, by simp only [B_Chapel_hasPaneAt_1, h4, g0, g6, ↓reduceIte, x1, hg_T, c1, a1, ← nI_succ]⟩
theorem rp1_bad {c x p : Nat} {v2 : Int32} {M : hn} (hp : p ≤ 12) (h : M.1 76 8 = nI x) (h0 : 0 < x) (h2 : x < 2147483648) : F_Md_readPane_1 c hN (nI p) v2 (0 : Int32) M = B_Md_readPane_2 c v2 M := by
  refine it_wp (B := B_Md_readPane_1 c) (z := fun _ _ _ _ => none) (fun K j (_ : Unit) => K (nI p) v2 (nI j) M) p
    (fun _ _ => True) (Q := fun y => y = B_Md_readPane_2 c v2 M) ?_ ?_ (n := hN) (k := 0) (s := ()) (Nat.zero_le _) (hN_big (by omega)) trivial
  · intro K _ _
    have g0 : nI p ≤ nI p := (nI_lei (by omega) (by omega)).mpr (Nat.le_refl _)
    simp only [B_Md_readPane_1, g0, ↓reduceIte]
  · intro K j _ hj' _
    left
    have g0 : ¬ nI p ≤ nI j := fun z => by have := (nI_lei (by omega) (by omega)).mp z; omega
    simp only [B_Md_readPane_1, g0, ↓reduceIte, h, bad8 h0 h2]
theorem i97 (j : Nat) : (97 : Int32) + (4 : Int32) * nI j = nI (97 + 4 * j) := by rw [show (97 : Int32) = nI 97 from rfl, show (4 : Int32) = nI 4 from rfl, nI_m, nI_a]
theorem rp1_miss {c p i so' : Nat} {val : Int64} {v2 : Nat} {M : hn} (hp : p ≤ 12) (hi : i ≤ 1000) (hv : v2 < 160) (h8 : M.1 76 8 = 0) (h7 : M.1 76 7 = nI i) (h78 : M.1 78 i = nI so') (hs : so' ≤ 4) (h80 : so' = 2 → M.2 80 i = val)
    (hm : so' = 2 → ∀ j, j < p → ¬ (M.1 82 (97 + 4 * j) = M.1 82 v2 ∧ (M.1 82 (98 + 4 * j)).toInt64 = val)) : F_Md_readPane_1 c hN (nI p) (nI v2) (0 : Int32) M = B_Md_readPane_2 c (nI v2) M := by
  refine it_wp (B := B_Md_readPane_1 c) (z := fun _ _ _ _ => none) (fun K j (_ : Unit) => K (nI p) (nI v2) (nI j) M) p
    (fun _ _ => True) (Q := fun y => y = B_Md_readPane_2 c (nI v2) M) ?_ ?_ (n := hN) (k := 0) (s := ()) (Nat.zero_le _) (hN_big (by omega)) trivial
  · intro K _ _
    have g0 : nI p ≤ nI p := (nI_lei (by omega) (by omega)).mpr (Nat.le_refl _)
    simp only [B_Md_readPane_1, g0, ↓reduceIte]
  · intro K j _ hj' _
    right
    have g0 : ¬ nI p ≤ nI j := fun z => by have := (nI_lei (by omega) (by omega)).mp z; omega
    have xi : hn_ix 1002 (nI i) = true := ix_ok (by omega) (by decide)
    have ci : (nI i).toNatClampNeg = i := nI_lt31 (by omega)
    have x1 : hn_ix 160 (nI (97 + 4 * j)) = true := ix_ok (by omega) (by decide)
    have c1 : (nI (97 + 4 * j)).toNatClampNeg = 97 + 4 * j := nI_lt31 (by omega)
    have xv : hn_ix 160 (nI v2) = true := ix_ok (by omega) (by decide)
    have cv : (nI v2).toNatClampNeg = v2 := nI_lt31 (by omega)
    have i98 : nI (97 + 4 * j) + (1 : Int32) = nI (98 + 4 * j) := by rw [show (1 : Int32) = nI 1 from rfl, nI_a]; exact congrArg nI (by omega)
    have x2 : hn_ix 160 (nI (98 + 4 * j)) = true := ix_ok (by omega) (by decide)
    have c2 : (nI (98 + 4 * j)).toNatClampNeg = 98 + 4 * j := nI_lt31 (by omega)
    refine ⟨(), trivial, ?_⟩
    by_cases q : so' = 2
    · have g2 : nI so' = (2 : Int32) := by rw [q]; rfl
      by_cases a1 : M.1 82 (97 + 4 * j) = M.1 82 v2
      · have a2 : ¬ lg_cmp (M.1 82 (98 + 4 * j)).toInt64 val = 0 := fun y => hm q j hj' ⟨a1, lgc.mp y⟩
        simp only [B_Md_readPane_1, g0, ↓reduceIte, h8, i97, hl_e, h7, xi, ci, hg_T, h78, g2, x1, c1, xv, cv, a1, i98, x2, c2, h80 q, a2, ← nI_succ]
      · simp only [B_Md_readPane_1, g0, ↓reduceIte, h8, i97, hl_e, h7, xi, ci, hg_T, h78, g2, x1, c1, xv, cv, a1, ← nI_succ]
    · have g2 : ¬ nI so' = (2 : Int32) := nI_ni (b := 2) (by omega) (by decide) q
      simp only [B_Md_readPane_1, g0, ↓reduceIte, h8, i97, hl_e, h7, xi, ci, hg_T, h78, g2, ← nI_succ]
theorem rp1_hit {c p i x j0 : Nat} {val : Int64} {v2 : Nat} {M : hn} (hp : p ≤ 12) (hi : i ≤ 1000) (hv : v2 < 160) (h8 : M.1 76 8 = 0) (h7 : M.1 76 7 = nI i) (h78 : M.1 78 i = (2 : Int32)) (h80 : M.2 80 i = val)
    (hj : j0 < p) (h1 : M.1 82 (97 + 4 * j0) = M.1 82 v2) (h2 : (M.1 82 (98 + 4 * j0)).toInt64 = val) (hw : F_Md_wrong c (3 : Int32) M = some (hn_wI M 76 8 (nI x))) (x0 : 0 < x) (xb : x < 2147483648) : F_Md_readPane_1 c hN (nI p) (nI v2) (0 : Int32) M = B_Md_readPane_2 c (nI v2) (hn_wI M 76 8 (nI x)) := by
  refine it_wp (B := B_Md_readPane_1 c) (z := fun _ _ _ _ => none) (fun K j (s : hn) => K (nI p) (nI v2) (nI j) s) p
    (fun j s => (s = M ∧ j ≤ j0) ∨ s = hn_wI M 76 8 (nI x)) (Q := fun y => y = B_Md_readPane_2 c (nI v2) (hn_wI M 76 8 (nI x))) ?_ ?_ (n := hN) (k := 0) (s := M) (Nat.zero_le _) (hN_big (by omega)) (Or.inl ⟨rfl, Nat.zero_le _⟩)
  · intro K s hs
    have g0 : nI p ≤ nI p := (nI_lei (by omega) (by omega)).mpr (Nat.le_refl _)
    rcases hs with ⟨-, hs⟩ | rfl
    · omega
    · simp only [B_Md_readPane_1, g0, ↓reduceIte]
  · intro K j s hj' hs
    have g0 : ¬ nI p ≤ nI j := fun z => by have := (nI_lei (by omega) (by omega)).mp z; omega
    rcases hs with ⟨rfl, hs⟩ | rfl
    · right
      have xi : hn_ix 1002 (nI i) = true := ix_ok (by omega) (by decide)
      have ci : (nI i).toNatClampNeg = i := nI_lt31 (by omega)
      have x1 : hn_ix 160 (nI (97 + 4 * j)) = true := ix_ok (by omega) (by decide)
      have c1 : (nI (97 + 4 * j)).toNatClampNeg = 97 + 4 * j := nI_lt31 (by omega)
      have xv : hn_ix 160 (nI v2) = true := ix_ok (by omega) (by decide)
      have cv : (nI v2).toNatClampNeg = v2 := nI_lt31 (by omega)
      have i98 : nI (97 + 4 * j) + (1 : Int32) = nI (98 + 4 * j) := by rw [show (1 : Int32) = nI 1 from rfl, nI_a]; exact congrArg nI (by omega)
      have x2 : hn_ix 160 (nI (98 + 4 * j)) = true := ix_ok (by omega) (by decide)
      have c2 : (nI (98 + 4 * j)).toNatClampNeg = 98 + 4 * j := nI_lt31 (by omega)
      by_cases a : s.1 82 (97 + 4 * j) = s.1 82 v2 ∧ (s.1 82 (98 + 4 * j)).toInt64 = val
      · have a2 : lg_cmp (s.1 82 (98 + 4 * j)).toInt64 val = 0 := lgc.mpr a.2
        refine ⟨hn_wI s 76 8 (nI x), Or.inr rfl, ?_⟩
        simp only [B_Md_readPane_1, g0, ↓reduceIte, h8, i97, hl_e, h7, xi, ci, hg_T, h78, x1, c1, xv, cv, a.1, i98, x2, c2, h80, a2, hw, hvN_e, ← nI_succ]
      · have jn : j ≠ j0 := fun y => by subst y; exact a ⟨h1, h2⟩
        refine ⟨s, Or.inl ⟨rfl, by omega⟩, ?_⟩
        by_cases a1 : s.1 82 (97 + 4 * j) = s.1 82 v2
        · have a2 : ¬ lg_cmp (s.1 82 (98 + 4 * j)).toInt64 val = 0 := fun y => a ⟨a1, lgc.mp y⟩
          simp only [B_Md_readPane_1, g0, ↓reduceIte, h8, i97, hl_e, h7, xi, ci, hg_T, h78, x1, c1, xv, cv, a1, i98, x2, c2, h80, a2, ← nI_succ]
        · simp only [B_Md_readPane_1, g0, ↓reduceIte, h8, i97, hl_e, h7, xi, ci, hg_T, h78, x1, c1, xv, cv, a1, ← nI_succ]
    · left
      have e8 : (hn_wI M 76 8 (nI x)).1 76 8 = nI x := wI_s
      simp only [B_Md_readPane_1, g0, ↓reduceIte, e8, bad8 x0 xb]
theorem rp4_bad {c x : Nat} {v2 : Int32} {M : hn} (h : M.1 76 8 = nI x) (h0 : 0 < x) (h2 : x < 2147483648) : B_Md_readPane_4 c v2 M = some M := by
  have z : ¬ nI x ≤ (0 : Int32) := fun y => by have := (nI_lei (b := 0) h2 (by decide)).mp y; omega
  simp only [B_Md_readPane_4, h, z, ↓reduceIte]
theorem i98' (p : Nat) : nI (97 + 4 * p) + (1 : Int32) = nI (98 + 4 * p) := by rw [show (1 : Int32) = nI 1 from rfl, nI_a]; exact congrArg nI (by omega)
theorem i99' (p : Nat) : nI (97 + 4 * p) + (2 : Int32) = nI (99 + 4 * p) := by rw [show (2 : Int32) = nI 2 from rfl, nI_a]; exact congrArg nI (by omega)
theorem i100' (p : Nat) : nI (97 + 4 * p) + (3 : Int32) = nI (100 + 4 * p) := by rw [show (3 : Int32) = nI 3 from rfl, nI_a]; exact congrArg nI (by omega)
/-- behind the row: where wrong already -/
def pTg (c p : Nat) (N4 : hn) : Option hn := (if (N4.1 76 8) = 0 then
  hbN (F_Md_isName c N4) fun r6 N5 => (if r6 = 0 then hvN (F_Md_wrong c (1 : Int32) N5) fun N7 => B_Md_readPane_4 c (nI (97 + 4 * p)) N7
  else B_Md_readPane_3 c (nI (97 + 4 * p)) N5) else B_Md_readPane_3 c (nI (97 + 4 * p)) N4)
def pT2 (c p : Nat) (r2 : Int32) (N1 : hn) : Option hn := hl (hn_wI N1 82 (98 + 4 * p) r2) fun N3 => hvN (F_Md_takeWord c (5 : Int32) N3) fun N4 => pTg c p N4
theorem pT2_eq {c p : Nat} {M : hn} (hp : p < 12) : B_Md_readPane_2 c (nI (97 + 4 * p)) M = hbN (F_Md_takeNumber c (0 : Int32) (3 : Int32) M) fun r2 N1 => pT2 c p r2 N1 := by
  have x1 : hn_ix 160 (nI (98 + 4 * p)) = true := ix_ok (by omega) (by decide)
  have c1 : (nI (98 + 4 * p)).toNatClampNeg = 98 + 4 * p := nI_lt31 (by omega)
  simp only [B_Md_readPane_2, i98', x1, hg_T, c1, pT2, pTg]
theorem pT2_bad {c x p : Nat} {v : Int32} {M : hn} (h : M.1 76 8 = nI x) (h0 : 0 < x) (h2 : x < 2147483648) : ∃ M', pT2 c p v M = some M' ∧ fr MS ML M M' ∧ M'.1 76 8 = nI x := by
  have h' : (hn_wI M 82 (98 + 4 * p) v).1 76 8 = nI x := by rw [wI_o (by decide)]; exact h
  obtain ⟨M1, d1, d2, d3⟩ := takeWord_bad (c := c) (v := 5) h' h0 h2
  refine ⟨M1, ?_, (fr.wI (by unfold MS; omega)).trans d2, d3⟩
  simp only [pT2, pTg, hl_e, d1, hvN_e, d3, bad8 h0 h2, ↓reduceIte, B_Md_readPane_3, rp4_bad d3 h0 h2]
theorem rp2_bad {c x p : Nat} {M : hn} (hp : p < 12) (h : M.1 76 8 = nI x) (h0 : 0 < x) (h2 : x < 2147483648) : ∃ M', B_Md_readPane_2 c (nI (97 + 4 * p)) M = some M' ∧ fr MS ML M M' ∧ M'.1 76 8 = nI x := by
  obtain ⟨M', d1, d2, d3⟩ := pT2_bad (c := c) (p := p) (v := 0) h h0 h2
  exact ⟨M', by rw [pT2_eq hp, takeNumber_bad h h0 h2]; simp only [hbN_e, d1], d2, d3⟩
/-- a number at a token -/
theorem num_val {t : Nat → Nat} {n T i : Nat} {N M : hn} (hK : atK t n i N) (hM : bM t n T i M) (hk : kd t n (sT t n i) = 2) : ∃ a, a < 10000 ∧ N.1 3 5 = nI a ∧ M.2 80 i = lN a ∧ M.1 78 i = (2 : Int32) := by
  obtain ⟨k1, -, ht, -, e7, e8, hi'⟩ := id hM
  have h35 := hK.2.2.2.1 hk
  have tn := tok_num (n := n) (p := sT t n i) (fun h => ht _ h)
  have tv : va t n (sT t n i) = nv t (sT t n i) (tE t n (sT t n i) - sT t n i) ∧ va t n (sT t n i) < 10000 := by
    rcases tok_or t n (sT t n i) (fun y => ht _ y) with y | y | y | y | y
    · obtain ⟨-, y1, -⟩ := y; omega
    · obtain ⟨-, -, -, y1, y2⟩ := y; exact ⟨y1, y2⟩
    · obtain ⟨-, y0, y1, -⟩ := y; have := cS_in y0; omega
    · obtain ⟨-, y1, -⟩ := y; omega
    · obtain ⟨-, y1, -⟩ := y; omega
  rw [← tv.1] at h35
  obtain ⟨iT, sn⟩ := tok_in k1 hi' (by omega)
  refine ⟨_, tv.2, h35, (k1.2.2.2 i hi').2.2 iT, ?_⟩
  rw [(k1.2.2.2 i hi').2.1, tn.mpr hk]; rfl
theorem i64_eq {x y : Nat} (hx : x < 2147483648) (hy : y < 2147483648) : (nI x).toInt64 = lN y ↔ nI x = nI y := by
  rw [nI_64 hx, lN_inj (by omega) (by omega), nI_eqi hx hy]
