/-! BEST: the reference tries them all -/
theorem nI_lep {x b : Nat} (hx : x < 1000000000) (hb : b < 1000000000) : nI x ≤ nI b - 1 ↔ x < b := by
  cases b with
  | zero =>
    constructor
    · intro h
      exfalso
      have e : nI 0 - 1 = (-1 : Int32) := by decide
      rw [e] at h
      have h1 := Int32.le_iff_toInt_le.mp h
      rw [nI_toInt (by omega)] at h1
      have : (-1 : Int32).toInt = -1 := by decide
      omega
    · intro h; omega
  | succ b => rw [nI_pred, nI_lei (by omega) (by omega)]; omega
def rowR (P : Nat) (L : Nat → Bool) (a : Nat → Nat) (s : hn) : Prop := ∀ k, k < P → s.1 92 k = if L k then -1 else nI (a k)
def bstR (P b x : Nat) (w : Nat → Nat) (s0 s : hn) : Prop := (b ≤ x → s.1 76 28 = nI x ∧ ∀ k, k < P → s.1 93 k = nI (w k)) ∧ (x < b → s.1 76 28 = nI b - 1 ∧ s.1 93 = s0.1 93)
def tqR (N0 s : hn) : Prop := offM N0 s ∧ s.1 91 = N0.1 91
theorem tqR.w {N0 s : hn} (h : tqR N0 s) {a i : Nat} {v : Int32} (ha : a = 92 ∨ a = 93) : tqR N0 (hn_wI s a i v) := ⟨h.1.trans (offM.w (by omega)), by rw [wI_o (by omega)]; exact h.2⟩
theorem tqR.w28 {N0 s : hn} (h : tqR N0 s) {v : Int32} : tqR N0 (hn_wI s 76 28 v) := ⟨h.1.trans ⟨fun b a1 _ _ _ => wI_o a1, fun k _ a2 => wI_n a2, fun _ _ => rfl⟩, by rw [wI_o (by decide)]; exact h.2⟩
/-- the best row kept -/
theorem tries_1 {c P : Nat} (hP : P ≤ 12) (rP : Int32 → Int32 → hn → Option hn) {N0 s : hn} (hq : tqR N0 s) :
    ∃ s', F_Md_tries_1 c rP hN (nI P) (0 : Int32) s = some s' ∧ tqR N0 s' ∧ s'.1 92 = s.1 92 ∧ s'.1 76 = s.1 76 ∧ ∀ k, k < P → s'.1 93 k = s.1 92 k := by
  refine it_wp (B := B_Md_tries_1 c rP) (z := fun _ _ _ => none) (fun K k (s' : hn) => K (nI P) (nI k) s') P
    (fun k s' => tqR N0 s' ∧ s'.1 92 = s.1 92 ∧ s'.1 76 = s.1 76 ∧ ∀ i, i < k → s'.1 93 i = s.1 92 i)
    (Q := fun x => ∃ s', x = some s' ∧ tqR N0 s' ∧ s'.1 92 = s.1 92 ∧ s'.1 76 = s.1 76 ∧ ∀ k, k < P → s'.1 93 k = s.1 92 k) ?_ ?_ (n := hN) (k := 0) (s := s) (Nat.zero_le _) (hN_big (by omega)) ⟨hq, rfl, rfl, fun i hi => absurd hi (Nat.not_lt_zero i)⟩
  · rintro K s' ⟨i1, i2, i3, i4⟩
    have g : nI P ≤ nI P := (nI_lei (by omega) (by omega)).mpr (Nat.le_refl _)
    exact ⟨s', by simp only [B_Md_tries_1, g, ↓reduceIte], i1, i2, i3, i4⟩
  · rintro K k s' hk ⟨i1, i2, i3, i4⟩
    right
    have g : ¬ nI P ≤ nI k := fun q => by have := (nI_lei (by omega) (by omega)).mp q; omega
    have x1 : hn_ix 12 (nI k) = true := ix_ok (by omega) (by decide)
    have c1 : (nI k).toNatClampNeg = k := nI_lt31 (by omega)
    refine ⟨hn_wI s' 93 k (s'.1 92 k), ⟨i1.w (by omega), by rw [wI_o (by decide)]; exact i2, by rw [wI_o (by decide)]; exact i3, ?_⟩, by simp only [B_Md_tries_1, g, ↓reduceIte, x1, hg_T, c1, hl_e, ← nI_succ]⟩
    intro i hi
    by_cases q : i = k
    · subst q; rw [wI_s, i2]
    · rw [wI_n q]; exact i4 i (by omega)
theorem tries_ok {c : Nat} {ch : Nat → Int32} {law : Law} {N0 : hn} (h : RR c ch law N0) (hY : ∀ q, q < nP ch → N0.1 91 q = Yd ch law (N0.1 88) q) {C : Nat} (hC : C = 32415552) :
    ∀ (m p n : Nat) (L : Nat → Bool) (a : Nat → Nat) (b g : Nat) (s : hn), p + m = nP ch → m < n → (∀ k, L k = true → p ≤ k ∧ k < nP ch) → (∀ k, a k ≤ 12) → tqR N0 s → rowR (nP ch) L a s → s.1 76 28 = nI b - 1 → b < 1000000000 → g ≤ p * C →
    ∃ s', F_Md_tries c n (nI p) (nI g) s = some s' ∧ tqR N0 s' ∧ rowR (nP ch) L a s' ∧ bstR (nP ch) b (g + Vf (gG ch law (N0.1 88)) 12 L) (chS (gG ch law (N0.1 88)) (nP ch) m p L a) s s' := by
  obtain ⟨hP, hG6, -⟩ := h.P
  have hB := gG_B (ch := ch) (law := law) (st := N0.1 88)
  have pan : ∀ s : hn, tqR N0 s → F_Md_panes c s = some (nI (nP ch), s) := fun s hs => by
    have := (h.qM hs.1).P.2.2.2.2.1
    rw [panes_ok, this]
  generalize eG : gG ch law (N0.1 88) = G at hB
  intro m
  induction m with
  | zero =>
    intro p n L a b g s hpm hn' hL ha hq hr hb28 hb hg
    obtain ⟨n, rfl⟩ : ∃ n', n = n' + 1 := ⟨n - 1, by omega⟩
    have ep : p = nP ch := by omega
    subst ep
    have hLf : ∀ k, L k = false := fun k => by
      by_cases q : L k = true
      · have := hL k q; omega
      · simpa using q
    have v0 : Vf G 12 L = 0 := by rw [Vf_up (j := 0) 12 (by omega) (fun k _ _ => hLf k)]; rfl
    have v0' : g + Vf G 12 L = g := by rw [v0]; rfl
    rw [v0']
    show ∃ s', E_Md_tries c (F_Md_tries c n) (nI (nP ch)) (nI g) s = some s' ∧ _
    have hgb : g < 1000000000 := by have := Nat.mul_le_mul_right C hP; omega
    have g28 := nI_lep (x := g) (b := b) hgb hb
    by_cases q : g < b
    · have q1 : nI g ≤ nI b - 1 := g28.mpr q
      refine ⟨s, ?_, hq, hr, fun z => by omega, fun _ => ⟨hb28, rfl⟩⟩
      simp only [E_Md_tries, pan s hq, hbN_e, ↓reduceIte, hb28, q1]
    · have q1 : ¬ nI g ≤ nI b - 1 := fun z => q (g28.mp z)
      obtain ⟨s', d1, d2, d3, d4, d5⟩ := tries_1 (c := c) hP (F_Md_tries c n) (hq.w28 (v := nI g))
      rw [wI_o (by decide)] at d3
      refine ⟨s', ?_, d2, ?_, fun _ => ⟨?_, ?_⟩, fun z => by omega⟩
      · simp only [E_Md_tries, pan s hq, hbN_e, ↓reduceIte, hb28, q1, hl_e, d1]
      · intro k hk; rw [d3]; exact hr k hk
      · rw [d4, wI_s]
      · intro k hk
        rw [d5 k hk, wI_o (by decide), hr k hk, if_neg (by rw [hLf k]; decide), chS]
  | succ m ih =>
    intro p n L a b g s hpm hn' hL ha hq hr hb28 hb hg
    obtain ⟨n, rfl⟩ : ∃ n', n = n' + 1 := ⟨n - 1, by omega⟩
    have hp : p < nP ch := by omega
    show ∃ s', E_Md_tries c (F_Md_tries c n) (nI p) (nI g) s = some s' ∧ _
    have g0 : ¬ nI p = nI (nP ch) := fun z => by have := (nI_eqi (by omega) (by omega)).mp z; omega
    have x1 : hn_ix 12 (nI p) = true := ix_ok (by omega) (by decide)
    have c1 : (nI p).toNatClampNeg = p := nI_lt31 (by omega)
    have ep1 : nI p + (1 : Int32) = nI (p + 1) := (nI_succ p).symm
    by_cases qL : L p = true
    · have r0 : s.1 92 p = -1 := by rw [hr p hp, if_pos qL]
      have g1 : (-1 : Int32) < 0 := by decide
      -- alone
      obtain ⟨s1, e1, e2, e3, e4⟩ := ih (p + 1) n (del L p) (fun k => if k = p then p else if k = p then p else a k) b g (hn_wI s 92 p (nI p)) (by omega) (by omega)
        (fun k hk => by
          have hkp : k ≠ p := fun e => by rw [e, del_same] at hk; exact absurd hk (by decide)
          rw [del_ne hkp] at hk
          have := hL k hk
          omega)
        (fun k => by
          by_cases q : k = p
          · rw [if_pos q]; omega
          · rw [if_neg q, if_neg q]; exact ha k) (hq.w (by omega))
        (fun k hk => by
          dsimp only
          by_cases q : k = p
          · subst q; rw [wI_s, del_same, if_neg (by decide), if_pos rfl]
          · rw [wI_n q, del_ne q, if_neg q, if_neg q]; exact hr k hk)
        (by rw [wI_o (by decide)]; exact hb28) hb (by rw [Nat.succ_mul]; omega)
      have e4' : bstR (nP ch) b (g + Vf G 12 (del L p)) (chS G (nP ch) m (p + 1) (del L p) (fun k => if k = p then p else if k = p then p else a k)) s s1 := ⟨e4.1, fun z => ⟨(e4.2 z).1, by rw [(e4.2 z).2, wI_o (by decide)]⟩⟩
      have dd : del (del L p) p = del L p := by funext k; unfold del; cases L k <;> simp
      -- with each
      have lp : ∃ s', F_Md_tries_2 c (F_Md_tries c n) hN (nI p) (nI g) (nI (p + 1)) s1 = some s' ∧ tqR N0 s' ∧ rowR (nP ch) L a s' ∧ bstR (nP ch) b (g + Vf G 12 L) (chS G (nP ch) (m + 1) p L a) s s' := by
        refine it_wp (B := B_Md_tries_2 c (F_Md_tries c n)) (z := fun _ _ _ _ => none) (fun K j (s' : hn) => K (nI p) (nI g) (nI (p + 1 + j)) s') m
          (fun j s' => tqR N0 s' ∧ (∀ k, k < nP ch → k ≠ p → s'.1 92 k = if L k then -1 else nI (a k)) ∧
            bstR (nP ch) b (g + (mxP G L p j).1) (chS G (nP ch) m (p + 1) (del (del L p) (mxP G L p j).2) (fun k => if k = (mxP G L p j).2 then p else if k = p then (mxP G L p j).2 else a k)) s s')
          (Q := fun x => ∃ s', x = some s' ∧ tqR N0 s' ∧ rowR (nP ch) L a s' ∧ bstR (nP ch) b (g + Vf G 12 L) (chS G (nP ch) (m + 1) p L a) s s') ?_ ?_ (n := hN) (k := 0) (s := s1) (Nat.zero_le _) (hN_big (by omega)) ⟨e2, ?_, ?_⟩
        · rintro K s' ⟨i1, i2, i3⟩
          have g2 : nI (nP ch) ≤ nI (p + 1 + m) := (nI_lei (by omega) (by omega)).mpr (by omega)
          refine ⟨hn_wI s' 92 p (-1 : Int32), ?_, i1.w (by omega), ?_, ?_⟩
          · simp only [B_Md_tries_2, pan s' i1, hbN_e, g2, ↓reduceIte, x1, hg_T, c1, hl_e]
          · intro k hk
            by_cases q : k = p
            · subst q; rw [wI_s, if_pos qL]
            · rw [wI_n q]; exact i2 k hk q
          · have em : nP ch - 1 - p = m := by omega
            have mv := mxP_V hB.1 hp hP qL hL
            rw [em] at mv
            rw [chS, if_pos qL]
            unfold ptG
            rw [em, ← mv]
            exact ⟨fun z => by rw [wI_o (by decide), wI_o (by decide)]; exact i3.1 z, fun z => by rw [wI_o (by decide), wI_o (by decide)]; exact i3.2 z⟩
        · rintro K j s' hj ⟨i1, i2, i3⟩
          right
          obtain ⟨e, he⟩ : ∃ e, e = p + 1 + j := ⟨_, rfl⟩
          have eN : e < nP ch := by omega
          have hep : e ≠ p := by omega
          have en : nI (p + 1 + (j + 1)) = nI e + (1 : Int32) := by rw [← nI_succ, he]; exact congrArg nI (by omega)
          rw [en, ← he]
          have g2 : ¬ nI (nP ch) ≤ nI e := fun q => by have := (nI_lei (by omega) (by omega)).mp q; omega
          have x2 : hn_ix 12 (nI e) = true := ix_ok (by omega) (by decide)
          have c2 : (nI e).toNatClampNeg = e := nI_lt31 (by omega)
          have rE := i2 e eN hep
          have o88 : s'.1 88 = N0.1 88 := i1.1.1 88 (by decide) (by decide) (by decide) (by omega)
          have hs := h.qM i1.1
          have m4 := hs.P.2.2.2.2.1
          have zz : (0 : Int32) ≤ 0 := by decide
          -- passed by
          have skip : vdG G L p e ≠ true → (tqR N0 s' ∧ (∀ k, k < nP ch → k ≠ p → s'.1 92 k = if L k then -1 else nI (a k)) ∧
            bstR (nP ch) b (g + (mxP G L p (j + 1)).1) (chS G (nP ch) m (p + 1) (del (del L p) (mxP G L p (j + 1)).2) (fun k => if k = (mxP G L p (j + 1)).2 then p else if k = p then (mxP G L p (j + 1)).2 else a k)) s s') := by
            intro hv
            have em : mxP G L p (j + 1) = mxP G L p j := by rw [mxP, ← he, if_neg (fun z => hv z.1)]
            rw [em]; exact ⟨i1, i2, i3⟩
          by_cases qe : L e = true
          · rw [if_pos qe] at rE
            have gE : ¬ (0 : Int32) ≤ -1 := by decide
            by_cases qs : N0.1 88 p = N0.1 88 e
            · refine ⟨s', skip ?_, ?_⟩
              · have : G p e = 0 := by rw [← eG]; unfold gG; rw [if_pos qs]
                unfold vdG; simp [hep, this]
              · have nu : F_Md_areUnlike c (nI p) (nI e) s' = some (0, s') := md_unl_n hP m4 (by
                  rintro ⟨x, y, hx, hy, e1, e2, ne⟩
                  have := (nI_eqi (by omega) (by omega)).mp e1
                  have := (nI_eqi (by omega) (by omega)).mp e2
                  subst x y
                  rw [o88] at ne; exact ne qs)
                simp only [B_Md_tries_2, B_Md_tries_3, B_Md_tries_4, pan s' i1, hbN_e, g2, ↓reduceIte, x2, hg_T, c2, rE, gE, nu, zz]
            · obtain ⟨oa, ho1, ea⟩ := h.own p hp
              obtain ⟨ob, ho2, eb⟩ := h.own e eN
              have un := md_unl_y (c := c) hP m4 hp eN (by rw [o88]; exact qs)
              have gm := gai_md hs hp eN ho1 ho2 (by rw [o88]; exact ea) (by rw [o88]; exact eb) (Y := Yd ch law (N0.1 88)) (fun q hq => by rw [i1.2]; exact hY q hq)
              rw [gG_nI (show oa < 6 by omega) (show ob < 6 by omega) ea eb qs, eG] at gm
              have z1 : ¬ (1 : Int32) = 0 := by decide
              have gB' := hB.2.1 p e
              by_cases qg : G p e = 0
              · refine ⟨s', skip ?_, ?_⟩
                · unfold vdG; simp [hep, qg]
                · have zg : nI (G p e) ≤ 0 := by rw [qg]; decide
                  simp only [B_Md_tries_2, B_Md_tries_4, pan s' i1, hbN_e, g2, ↓reduceIte, x2, hg_T, c2, rE, gE, un, z1, gm, zg]
              · have zg : ¬ nI (G p e) ≤ 0 := fun z => by have := (nI_lei (b := 0) (by omega) (by decide)).mp z; omega
                have vd : vdG G L p e = true := by unfold vdG; rw [del_ne hep, qe]; simp; omega
                obtain ⟨w1, w2, w3, w4, -⟩ := mxP_ok (G := G) (L := L) (p := p) j
                have mxb : (mxP G L p j).1 ≤ 421402176 := by
                  rw [← w4]; unfold opG
                  have v1 := hB.2.2 12 (del L p) (by omega)
                  have v2 := hB.2.2 12 (del (del L p) (mxP G L p j).2) (by omega)
                  have v3 := hB.2.1 p (mxP G L p j).2
                  split <;> omega
                have hgb : g ≤ 388986624 := by have := Nat.mul_le_mul_right C (show p ≤ 12 by omega); omega
                obtain ⟨b1, hb1, hb2, hb3⟩ : ∃ b1, b1 < 1000000000 ∧ s'.1 76 28 = nI b1 - 1 ∧ ((b ≤ g + (mxP G L p j).1 ∧ b1 = g + (mxP G L p j).1 + 1) ∨ (g + (mxP G L p j).1 < b ∧ b1 = b)) := by
                  by_cases z : b ≤ g + (mxP G L p j).1
                  · exact ⟨g + (mxP G L p j).1 + 1, by omega, by rw [(i3.1 z).1, nI_pred], Or.inl ⟨z, rfl⟩⟩
                  · exact ⟨b, hb, (i3.2 (by omega)).1, Or.inr ⟨by omega, rfl⟩⟩
                obtain ⟨s2, f1, f2, f3, f4⟩ := ih (p + 1) n (del (del L p) e) (fun k => if k = e then p else if k = p then e else a k) b1 (g + G p e) (hn_wI (hn_wI s' 92 p (nI e)) 92 e (nI p)) (by omega) (by omega)
                  (fun k hk => by
                    unfold del at hk
                    simp only [Bool.and_eq_true, Bool.not_eq_true', decide_eq_false_iff_not] at hk
                    have := hL k hk.1.1
                    omega)
                  (fun k => by
                    have := ha k
                    split
                    · omega
                    · split <;> omega) ((i1.w (by omega)).w (by omega))
                  (fun k hk => by
                    dsimp only
                    by_cases q1 : k = e
                    · subst q1; rw [wI_s, del_same, if_neg (by decide), if_pos rfl]
                    · rw [wI_n q1, del_ne q1, if_neg q1]
                      by_cases q2 : k = p
                      · subst q2; rw [wI_s, del_same, if_neg (by decide), if_pos rfl]
                      · rw [wI_n q2, del_ne q2, if_neg q2]; exact i2 k hk q2)
                  (by rw [wI_o (by decide), wI_o (by decide)]; exact hb2) hb1 (by rw [Nat.succ_mul]; omega)
                have k93 : (hn_wI (hn_wI s' 92 p (nI e)) 92 e (nI p)).1 93 = s'.1 93 := by rw [wI_o (by decide), wI_o (by decide)]
                have eop : opG G L p e = G p e + Vf G 12 (del (del L p) e) := by unfold opG; rw [if_neg hep]
                have es : g + G p e + Vf G 12 (del (del L p) e) = g + opG G L p e := by rw [eop]; omega
                rw [es] at f4
                refine ⟨hn_wI s2 92 e (-1 : Int32), ⟨f2.w (by omega), ?_, ?_⟩, ?_⟩
                · intro k hk hkp
                  by_cases q1 : k = e
                  · subst q1; rw [wI_s, if_pos qe]
                  · rw [wI_n q1, f3 k hk, del_ne q1, del_ne hkp]
                    dsimp only
                    rw [if_neg q1, if_neg hkp]
                · have t28 : (hn_wI s2 92 e (-1 : Int32)).1 76 28 = s2.1 76 28 := by rw [wI_o (by decide)]
                  have t93 : (hn_wI s2 92 e (-1 : Int32)).1 93 = s2.1 93 := by rw [wI_o (by decide)]
                  by_cases qm : (mxP G L p j).1 < opG G L p e
                  · have em : mxP G L p (j + 1) = (opG G L p e, e) := by rw [mxP, ← he, if_pos ⟨vd, qm⟩]
                    rw [em]
                    refine ⟨fun z => ?_, fun z => ?_⟩
                    · rw [t28, t93]; exact f4.1 (by dsimp only at z; omega)
                    · dsimp only at z
                      have u := f4.2 (by omega)
                      rw [t28, t93]
                      refine ⟨?_, ?_⟩
                      · rw [u.1]; exact congrArg (fun x => nI x - 1) (by omega)
                      · rw [u.2, k93]; exact (i3.2 (by omega)).2
                  · have em : mxP G L p (j + 1) = mxP G L p j := by rw [mxP, ← he, if_neg (fun z => qm z.2)]
                    rw [em]
                    refine ⟨fun z => ?_, fun z => ?_⟩
                    · have u := f4.2 (by omega)
                      have eb1 : b1 = g + (mxP G L p j).1 + 1 := by omega
                      rw [t28, t93, u.1, u.2, k93, eb1, nI_pred]
                      exact ⟨rfl, (i3.1 z).2⟩
                    · have u := f4.2 (by omega)
                      have eb1 : b1 = b := by omega
                      rw [t28, t93, u.1, u.2, k93, eb1]
                      exact ⟨rfl, (i3.2 z).2⟩
                · simp only [B_Md_tries_2, B_Md_tries_4, pan s' i1, hbN_e, g2, ↓reduceIte, x1, c1, x2, hg_T, c2, rE, gE, un, z1, gm, zg, hl_e, ep1, nI_a, f1, hvN_e]
          · rw [if_neg qe] at rE
            have gE : (0 : Int32) ≤ nI (a e) := nI_p (by have := ha e; omega)
            refine ⟨s', skip ?_, ?_⟩
            · unfold vdG; rw [del_ne hep]; simp [hep, qe]
            · simp only [B_Md_tries_2, B_Md_tries_3, B_Md_tries_4, pan s' i1, hbN_e, g2, ↓reduceIte, x2, hg_T, c2, rE, gE, zz]
        · intro k hk hkp
          rw [e3 k hk, del_ne hkp]
          dsimp only
          rw [if_neg hkp, if_neg hkp]
        · show bstR (nP ch) b (g + Vf G 12 (del L p)) (chS G (nP ch) m (p + 1) (del (del L p) p) (fun k => if k = p then p else if k = p then p else a k)) s s1
          rw [dd]; exact e4'
      obtain ⟨s', d1, d2⟩ := lp
      refine ⟨s', ?_, d2⟩
      simp only [E_Md_tries, pan s hq, hbN_e, g0, ↓reduceIte, x1, hg_T, c1, r0, g1, ep1, hl_e, e1, hvN_e, d1]
    · have r0 : s.1 92 p = nI (a p) := by rw [hr p hp, if_neg qL]
      have g1 : ¬ nI (a p) < 0 := nI_nn (by have := ha p; omega)
      obtain ⟨s', d1, d2, d3, d4⟩ := ih (p + 1) n L a b g s (by omega) (by omega) (fun k hk => by
        have := hL k hk
        have : k ≠ p := fun e => qL (by rw [← e]; exact hk)
        omega) ha hq hr hb28 hb (by rw [Nat.succ_mul]; omega)
      refine ⟨s', ?_, d2, d3, ?_⟩
      · simp only [E_Md_tries, pan s hq, hbN_e, g0, ↓reduceIte, x1, hg_T, c1, r0, g1, ep1, d1, hvN_e]
      · rw [chS, if_neg qL]; exact d4
