/-! where light falls: the class turns to a time -/
theorem shine_ok {c : Nat} (hc : isChap c) {ch : Nat → Int32} {law : Law} {N : hn} (hch : chOK ch) (hl : lawOK law) (h : chapP c ch law N) {t : Nat} (ht : t < 1248)
    (hf0 : N.1 (c + 13) 0 = nI (t / 24)) (hf1 : N.1 (c + 13) 1 = nI (t % 24)) :
    ∃ N', F_Light_shine c (nI t) N = some N' ∧ (∀ b, b ≠ c + 12 → b ≠ c + 13 → N'.1 b = N.1 b) ∧ (∀ b, b ≠ 35 → N'.2 b = N.2 b) ∧
      (∀ j, j ≠ 2 * t → j ≠ 2 * t + 1 → N'.2 35 j = N.2 35 j) ∧ N'.2 35 (2 * t) = KN ||| lN (pk (aS ch law t) 6) ∧ N'.2 35 (2 * t + 1) = lN (pk (fun p => aS ch law t (p + 6)) 6) ∧
      N'.1 (c + 13) 0 = nI (t / 24) ∧ N'.1 (c + 13) 1 = nI (t % 24) := by
  have hcc : c = 5 ∨ c = 20 := hc
  have ha := aS_le hch law t
  have ha6 : ∀ i, (fun p => aS ch law t (p + 6)) i ≤ 64 := fun i => ha (i + 6)
  obtain ⟨-, -, -, -, ⟨p1, p2⟩, -⟩ := id hch
  obtain ⟨N2, v1, o1⟩ := valueOf_ok (c' := c) (k := 2) hc (by decide) hl h
  have ef : lawV law 2 (N.1 (c + 13)) = lawV law 2 (facT t 0 0) := by
    apply lawV_cong hl (by decide)
    intro f hf
    have hf' : f < 2 := by have := hf.2; omega
    have : f = 0 ∨ f = 1 := by omega
    rcases this with rfl | rfl
    · rw [hf0]; rfl
    · rw [hf1]; rfl
  rw [ef] at v1
  have v1' : F_Laws_valueOf c (c + 8) (137 : Int32) N = _ := v1
  have h2 : chapP c ch law N2 := h.off hc (fun b _ _ => o1.1 b (by omega))
  have f0 : N2.1 (c + 13) 0 = nI (t / 24) := by rw [o1.1 _ (by omega)]; exact hf0
  have f1 : N2.1 (c + 13) 1 = nI (t % 24) := by rw [o1.1 _ (by omega)]; exact hf1
  have e2t : (2 : Int32) * nI t = nI (2 * t) := by rw [show (2 : Int32) = nI 2 from rfl, nI_m]
  have e2t1 : nI (2 * t) + (1 : Int32) = nI (2 * t + 1) := (nI_succ _).symm
  have x1 : hn_ix 2496 (nI (2 * t)) = true := ix_ok (by omega) (by decide)
  have x2 : hn_ix 2496 (nI (2 * t + 1)) = true := ix_ok (by omega) (by decide)
  have c1 : (nI (2 * t)).toNatClampNeg = 2 * t := nI_lt31 (by omega)
  have c2 : (nI (2 * t + 1)).toNatClampNeg = 2 * t + 1 := nI_lt31 (by omega)
  -- the loop over g panes
  have loop : ∀ g, g ≤ nP ch → (∀ p, g ≤ p → aS ch law t p = 0) → (lawV law 2 (facT t 0 0) = 0 ∨ g = 0) →
      ∃ N', F_Light_shine_2 c hN (nI t) (c + 8) (-9223372036854775808 : Int64) (0 : Int64) (nI g) (0 : Int32) N2 = some N' ∧
      (∀ b, b ≠ c + 12 → b ≠ c + 13 → N'.1 b = N2.1 b) ∧ (∀ b, b ≠ 35 → N'.2 b = N2.2 b) ∧ (∀ j, j ≠ 2 * t → j ≠ 2 * t + 1 → N'.2 35 j = N2.2 35 j) ∧
      N'.2 35 (2 * t) = KN ||| lN (pk (aS ch law t) 6) ∧ N'.2 35 (2 * t + 1) = lN (pk (fun p => aS ch law t (p + 6)) 6) ∧
      N'.1 (c + 13) 0 = nI (t / 24) ∧ N'.1 (c + 13) 1 = nI (t % 24) := by
    intro g hg hz hd
    refine it_wp (B := B_Light_shine_2 c) (z := fun _ _ _ _ _ _ _ => none) (fun K k (s : Int64 × Int64 × hn) => K (nI t) (c + 8) s.1 s.2.1 (nI g) (nI k) s.2.2) g
      (fun k s => s.1 = KN ||| lN (pk (aS ch law t) (min k 6)) ∧ s.2.1 = lN (pk (fun p => aS ch law t (p + 6)) (k - 6)) ∧
        (∀ b, b ≠ c + 12 → b ≠ c + 13 → s.2.2.1 b = N2.1 b) ∧ s.2.2.2 = N2.2 ∧ s.2.2.1 (c + 13) 0 = nI (t / 24) ∧ s.2.2.1 (c + 13) 1 = nI (t % 24))
      (Q := fun x => ∃ N', x = some N' ∧
      (∀ b, b ≠ c + 12 → b ≠ c + 13 → N'.1 b = N2.1 b) ∧ (∀ b, b ≠ 35 → N'.2 b = N2.2 b) ∧ (∀ j, j ≠ 2 * t → j ≠ 2 * t + 1 → N'.2 35 j = N2.2 35 j) ∧
      N'.2 35 (2 * t) = KN ||| lN (pk (aS ch law t) 6) ∧ N'.2 35 (2 * t + 1) = lN (pk (fun p => aS ch law t (p + 6)) 6) ∧
      N'.1 (c + 13) 0 = nI (t / 24) ∧ N'.1 (c + 13) 1 = nI (t % 24)) ?_ ?_ (n := hN) (k := 0) (s := (KN, 0, N2)) (by omega) (hN_big (by omega)) ⟨?_, ?_, fun _ _ _ => rfl, rfl, f0, f1⟩
    · rintro K ⟨lo, hi, N3⟩ ⟨i1, i2, i3, i4, i5, i6⟩
      dsimp only at i1 i2 i3 i4 i5 i6
      have g1 : nI g ≤ nI g := Int32.le_refl _
      simp only [B_Light_shine_2, g1, ↓reduceIte, B_Light_shine_4, e2t, e2t1, x1, x2, c1, c2, hg_T, hl_s]
      refine ⟨_, rfl, ?_, ?_, ?_, ?_, ?_, ?_, ?_⟩
      · exact i3
      · intro b hb
        rw [wL_o hb, wL_o hb]; show N3.2 b = _; rw [i4]
      · intro j j1 j2
        rw [wL_n j2, wL_n j1]; show N3.2 35 j = _; rw [i4]
      · rw [wL_n (by omega), wL_s]
        show lo = _
        rw [i1]
        congr 2
        rcases Nat.lt_or_ge g 6 with q | q
        · rw [show min g 6 = g by omega]
          exact (pk_ext (by omega) (fun i h1 _ => hz i h1)).symm
        · rw [show min g 6 = 6 by omega]
      · rw [wL_s]
        show hi = _
        rw [i2]
        congr 1
        exact (pk_ext (by omega) (fun i h1 _ => hz (i + 6) (by omega))).symm
      · exact i5
      · exact i6
    · rintro K k ⟨lo, hi, N3⟩ hk ⟨i1, i2, i3, i4, i5, i6⟩
      dsimp only at i1 i2 i3 i4 i5 i6
      have hd' : lawV law 2 (facT t 0 0) = 0 := by
        rcases hd with q | q
        · exact q
        · omega
      have h3 : chapP c ch law N3 := h2.off hc (fun b _ _ => i3 b (by omega) (by omega))
      obtain ⟨N4, w1, w2, w3, w4, w5⟩ := shine_pane hc hch hl h3 (lo := lo) (hi := hi) hd' i5 i6 (by omega) hk (by omega) K
      right
      have ea : lN (spotN ch law t k) = lN (aS ch law t k) := by unfold aS; rw [if_pos (by omega)]
      rw [ea] at w1
      have hak := ha k
      rcases Nat.lt_or_ge k 6 with q | q
      · have g6 : ¬ (6 : Int32) ≤ nI k := nI_ge (b := 6) q (by decide)
        refine ⟨(lo ||| (lN (aS ch law t k) <<< (((8 : Int32) * nI k).toInt64 &&& 63)), hi, N4), ⟨?_, ?_, ?_, ?_, w4, w5⟩, ?_⟩
        · show lo ||| _ = _
          rw [show (8 : Int32) = nI 8 from rfl, nI_m, wb_shl _ (by omega), i1, show min k 6 = k by omega, show min (k + 1) 6 = k + 1 by omega, Int64.or_assoc, pk_or ha]
        · show hi = _
          rw [i2, show k - 6 = 0 by omega, show k + 1 - 6 = 0 by omega]
        · intro b b1 b2; rw [w2 b b1 b2, i3 b b1 b2]
        · show N4.2 = _; rw [w3]; exact i4
        · rw [w1]
          simp only [B_Light_shine_3, g6, ↓reduceIte, hl_s, ← nI_succ]
      · have g6 : (6 : Int32) ≤ nI k := nI_le (a := 6) q (by omega)
        have e6 : nI k - (6 : Int32) = nI (k - 6) := nI_s (b := 6) q
        refine ⟨(lo, hi ||| (lN (aS ch law t k) <<< (((8 : Int32) * nI (k - 6)).toInt64 &&& 63)), N4), ⟨?_, ?_, ?_, ?_, w4, w5⟩, ?_⟩
        · show lo = _
          rw [i1, show min k 6 = 6 by omega, show min (k + 1) 6 = 6 by omega]
        · show hi ||| _ = _
          have := pk_or ha6 (k := k - 6)
          rw [show (8 : Int32) = nI 8 from rfl, nI_m, wb_shl _ (by omega), i2, show k + 1 - 6 = k - 6 + 1 by omega, ← this]
          simp only [show k - 6 + 6 = k by omega]
        · intro b b1 b2; rw [w2 b b1 b2, i3 b b1 b2]
        · show N4.2 = _; rw [w3]; exact i4
        · rw [w1]
          simp only [B_Light_shine_3, g6, ↓reduceIte, hl_s, e6, ← nI_succ]
    · show KN = KN ||| lN 0
      decide
    · rfl
  have fin : ∀ N' : hn, (∀ b, b ≠ c + 12 → b ≠ c + 13 → N'.1 b = N2.1 b) ∧ (∀ b, b ≠ 35 → N'.2 b = N2.2 b) ∧ (∀ j, j ≠ 2 * t → j ≠ 2 * t + 1 → N'.2 35 j = N2.2 35 j) ∧
      N'.2 35 (2 * t) = KN ||| lN (pk (aS ch law t) 6) ∧ N'.2 35 (2 * t + 1) = lN (pk (fun p => aS ch law t (p + 6)) 6) ∧
      N'.1 (c + 13) 0 = nI (t / 24) ∧ N'.1 (c + 13) 1 = nI (t % 24) → (∀ b, b ≠ c + 12 → b ≠ c + 13 → N'.1 b = N.1 b) ∧ (∀ b, b ≠ 35 → N'.2 b = N.2 b) ∧
      (∀ j, j ≠ 2 * t → j ≠ 2 * t + 1 → N'.2 35 j = N.2 35 j) ∧ N'.2 35 (2 * t) = KN ||| lN (pk (aS ch law t) 6) ∧ N'.2 35 (2 * t + 1) = lN (pk (fun p => aS ch law t (p + 6)) 6) ∧
      N'.1 (c + 13) 0 = nI (t / 24) ∧ N'.1 (c + 13) 1 = nI (t % 24) := by
    rintro N' ⟨a1, a2, a3, a4⟩
    refine ⟨fun b b1 b2 => (a1 b b1 b2).trans (o1.1 b b1), fun b hb => (a2 b hb).trans (by rw [o1.2]), fun j j1 j2 => (a3 j j1 j2).trans (by rw [o1.2]), a4⟩
  have k4 : N2.1 c 4 = nI (nP ch) := by rw [o1.1 _ (by omega), h.1 4 (by decide), p1]
  unfold F_Light_shine
  rw [v1']
  simp only [hbN_s]
  by_cases hd : lawV law 2 (facT t 0 0) = 0
  · rw [if_pos hd]
    unfold B_Light_shine_1
    rw [k4]
    obtain ⟨N', b1, b2⟩ := loop (nP ch) (by omega) (fun p hp => by unfold aS; rw [if_neg (by omega)]) (Or.inl hd)
    exact ⟨N', b1, fin N' b2⟩
  · rw [if_neg hd]
    unfold B_Light_shine_1
    obtain ⟨N', b1, b2⟩ := loop 0 (by omega) (fun p hp => by unfold aS spotN; rw [if_neg hd]; split <;> rfl) (Or.inr rfl)
    exact ⟨N', b1, fin N' b2⟩
theorem turnTo_2 {c : Nat} {ch : Nat → Int32} {law : Law} {N : hn} (hch : chOK ch) {t : Nat} :
    ∃ N', F_Light_turnTo_2 c hN (KN ||| lN (pk (aS ch law t) 6)) (lN (pk (fun p => aS ch law t (p + 6)) 6)) (0 : Int32) N = some N' ∧ (∀ p, p < 12 → N'.1 34 p = spF ch law t p) ∧ off1 34 N N' := by
  have ha := aS_le hch law t
  have ha6 : ∀ i, (fun p => aS ch law t (p + 6)) i ≤ 64 := fun i => ha (i + 6)
  refine it_wp (B := B_Light_turnTo_2 c) (z := fun _ _ _ _ => none) (fun K k (s : hn) => K (KN ||| lN (pk (aS ch law t) 6)) (lN (pk (fun p => aS ch law t (p + 6)) 6)) (nI k) s) 6
    (fun k s => (∀ p, p < k → s.1 34 p = spF ch law t p ∧ s.1 34 (p + 6) = spF ch law t (p + 6)) ∧ off1 34 N s)
    (Q := fun x => ∃ N', x = some N' ∧ (∀ p, p < 12 → N'.1 34 p = spF ch law t p) ∧ off1 34 N N') ?_ ?_ (n := hN) (k := 0) (s := N) (by omega) (hN_big (by omega)) ⟨fun p hp => absurd hp (Nat.not_lt_zero p), off1.refl⟩
  · rintro K s ⟨i1, i2⟩
    refine ⟨s, ?_, ?_, i2⟩
    · show B_Light_turnTo_2 c K _ _ (nI 6) s = some s
      have g : (6 : Int32) ≤ nI 6 := by decide
      simp only [B_Light_turnTo_2, g, ↓reduceIte]
    · intro p hp
      rcases Nat.lt_or_ge p 6 with q | q
      · exact (i1 p q).1
      · have := (i1 (p - 6) (by omega)).2
        rwa [show p - 6 + 6 = p by omega] at this
  · rintro K k s hk ⟨i1, i2⟩
    right
    have g : ¬ (6 : Int32) ≤ nI k := nI_ge (b := 6) hk (by decide)
    have e6 : nI k + (6 : Int32) = nI (k + 6) := nI_a k 6
    have x1 : hn_ix 12 (nI k) = true := ix_ok (by omega) (by decide)
    have x2 : hn_ix 12 (nI (k + 6)) = true := ix_ok (by omega) (by decide)
    have c1 : (nI k).toNatClampNeg = k := nI_lt31 (by omega)
    have c2 : (nI (k + 6)).toNatClampNeg = k + 6 := nI_lt31 (by omega)
    refine ⟨hn_wI (hn_wI s 34 k (dcd (KN ||| lN (pk (aS ch law t) 6)) (nI k))) 34 (k + 6) (dcd (lN (pk (fun p => aS ch law t (p + 6)) 6)) (nI k)), ⟨?_, i2.trans (off1.w.trans off1.w)⟩, ?_⟩
    · intro p hp
      rw [dcd_lo ha hk, dcd_hi ha6 hk]
      rcases Nat.lt_or_ge p k with q | q
      · rw [wI_n (by omega), wI_n (by omega), wI_n (by omega), wI_n (by omega)]
        exact i1 p q
      · have e : p = k := by omega
        subst e
        rw [wI_n (by omega), wI_s, wI_s]
        exact ⟨rfl, rfl⟩
    · show B_Light_turnTo_2 c K _ _ (nI k) s = K _ _ (nI (k + 1)) _
      simp only [B_Light_turnTo_2, g, ↓reduceIte, e6, x1, x2, c1, c2, hg_T, hl_s, ← nI_succ]
      rfl
theorem turnTo_ok {c : Nat} (hc : isChap c) {ch : Nat → Int32} {law : Law} {N : hn} (hch : chOK ch) (hl : lawOK law) (h : chapP c ch law N) (hy : litP c ch law N) {t : Nat} (ht : t < 1248) :
    ∃ N', F_Light_turnTo c (nI t) N = some N' ∧ atT c ch law t N' ∧ litP c ch law N' ∧ offL c N N' := by
  have hcc : c = 5 ∨ c = 20 := hc
  by_cases e : nI t = N.1 19 3
  · refine ⟨N, ?_, ?_, hy, offL.refl⟩
    · simp only [F_Light_turnTo, e, ↓reduceIte]
    · rcases hy.2 with q | ⟨t', q1, q2⟩
      · rw [q] at e; exact absurd e (nI_nm (by omega))
      · have := q2.1
        rw [← e, nI_eqi (by omega) (by omega)] at this
        subst this
        exact q2
  · have g1 : ¬ nI t < 0 := nI_nn (by omega)
    have g2 : nI t < (1248 : Int32) := nI_lt (b := 1248) ht (by decide)
    have e24 : nI t / (24 : Int32) = nI (t / 24) := nI_d (b := 24) (by omega) (by decide)
    have m24 : nI t - nI (t / 24) * (24 : Int32) = nI (t % 24) := by rw [← e24]; exact nI_r (b := 24) (by omega) (by decide)
    have e2t : (2 : Int32) * nI t = nI (2 * t) := by rw [show (2 : Int32) = nI 2 from rfl, nI_m]
    have e2t1 : nI (2 * t) + (1 : Int32) = nI (2 * t + 1) := (nI_succ _).symm
    have x1 : hn_ix 2496 (nI (2 * t)) = true := ix_ok (by omega) (by decide)
    have x2 : hn_ix 2496 (nI (2 * t + 1)) = true := ix_ok (by omega) (by decide)
    have c1 : (nI (2 * t)).toNatClampNeg = 2 * t := nI_lt31 (by omega)
    have c2 : (nI (2 * t + 1)).toNatClampNeg = 2 * t + 1 := nI_lt31 (by omega)
    obtain ⟨N2, en⟩ : ∃ N2, N2 = hn_wI (hn_wI (hn_wI N 19 3 (nI t)) (c + 13) 0 (nI (t / 24))) (c + 13) 1 (nI (t % 24)) := ⟨_, rfl⟩
    have n0 : N2.1 (c + 13) 0 = nI (t / 24) := by rw [en, wI_n (by omega), wI_s]
    have n1 : N2.1 (c + 13) 1 = nI (t % 24) := by rw [en, wI_s]
    have nt : N2.1 19 3 = nI t := by rw [en, wI_o (by omega), wI_o (by omega), wI_s]
    have no : ∀ b, b ≠ 19 → b ≠ c + 13 → N2.1 b = N.1 b := fun b b1 b2 => by rw [en, wI_o b2, wI_o b2, wI_o b1]
    have n2 : N2.2 = N.2 := by rw [en]; rfl
    have h2 : chapP c ch law N2 := h.off hc (fun b _ _ => no b (by omega) (by omega))
    have step : ∀ N3 : hn, N3.2 35 (2 * t) = KN ||| lN (pk (aS ch law t) 6) → N3.2 35 (2 * t + 1) = lN (pk (fun p => aS ch law t (p + 6)) 6) →
        ∃ N', B_Light_turnTo_1 c (nI t) N3 = some N' ∧ (∀ p, p < 12 → N'.1 34 p = spF ch law t p) ∧ off1 34 N3 N' := by
      intro N3 a1 a2
      obtain ⟨N', b1, b2, b3⟩ := turnTo_2 (c := c) (law := law) (N := N3) hch (t := t)
      refine ⟨N', ?_, b2, b3⟩
      simp only [B_Light_turnTo_1, e2t, e2t1, x1, x2, c1, c2, hg_T, hl_s, a1, a2]
      exact b1
    have yr : yrP ch law N2 := by unfold yrP; rw [n2]; exact hy.1
    have lead : F_Light_turnTo c (nI t) N = (if (lg_cmp ((N2.2 35 (2 * t)) &&& (-9223372036854775808 : Int64)) (0 : Int64)) = 0 then hvN (F_Light_shine c (nI t) N2) fun N3 => B_Light_turnTo_1 c (nI t) N3 else B_Light_turnTo_1 c (nI t) N2) := by
      simp only [F_Light_turnTo, e, g1, g2, ↓reduceIte, hl_s, F_Laws_turnTo, x_7_0, x_7_1, hg_T, t_0, t_1, c8_5, e24, m24, hvN_s, e2t, x1, c1]
      rw [← en]
    rw [lead]
    by_cases hk : N2.2 35 (2 * t) &&& KN = 0
    · rw [if_pos (lgc.mpr hk)]
      obtain ⟨N3, s1, s2, s3, s4, s5, s6, s7, s8⟩ := shine_ok hc hch hl h2 ht n0 n1
      obtain ⟨N', b1, b2, b3⟩ := step N3 s5 s6
      refine ⟨N', ?_, ⟨?_, ?_, ?_, b2⟩, ⟨?_, Or.inr ⟨t, ht, ?_, ?_, ?_, b2⟩⟩, ⟨?_, ?_⟩⟩
      · rw [s1, hvN_s, b1]
      · rw [b3.1 _ (by omega), s2 _ (by omega) (by omega), nt]
      · rw [b3.1 _ (by omega), s7]
      · rw [b3.1 _ (by omega), s8]
      · intro t' ht'
        rw [b3.2]
        by_cases et : t' = t
        · subst et; exact Or.inr ⟨s5, s6⟩
        · rw [s4 _ (by omega) (by omega), s4 _ (by omega) (by omega)]
          exact yr t' ht'
      · rw [b3.1 _ (by omega), s2 _ (by omega) (by omega), nt]
      · rw [b3.1 _ (by omega), s7]
      · rw [b3.1 _ (by omega), s8]
      · intro b b1 b2 b4 b5
        rw [b3.1 b b2, s2 b b4 b5, no b b1 b5]
      · intro b hb
        rw [b3.2, s3 b hb, n2]
    · rw [if_neg (fun q => hk (lgc.mp q))]
      have y1 := (yr t ht).resolve_left hk
      obtain ⟨N', b1, b2, b3⟩ := step N2 y1.1 y1.2
      refine ⟨N', b1, ⟨?_, ?_, ?_, b2⟩, ⟨?_, Or.inr ⟨t, ht, ?_, ?_, ?_, b2⟩⟩, ⟨?_, ?_⟩⟩
      · rw [b3.1 _ (by omega), nt]
      · rw [b3.1 _ (by omega), n0]
      · rw [b3.1 _ (by omega), n1]
      · unfold yrP; rw [b3.2]; exact yr
      · rw [b3.1 _ (by omega), nt]
      · rw [b3.1 _ (by omega), n0]
      · rw [b3.1 _ (by omega), n1]
      · intro b b1 b2 b4 b5
        rw [b3.1 b b2, no b b1 b5]
      · intro b hb
        rw [b3.2, n2]
