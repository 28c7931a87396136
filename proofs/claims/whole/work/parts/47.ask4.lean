/-! answers: candles, when, clouded -/
theorem ps_colourOn {c : Nat} {ch : Nat → Int32} {law : Law} {N : hn} (h : RR c ch law N) {t k : Nat} (hk : k < 64) (ha : atT c ch law t N) {x : Int32} (hx : ∀ i, i < 32 → bt x i = (decide (i < nP ch) && !bt (N.1 88 12) i)) :
    F_Light_colourOn c (nI k) x N = some (colS ch law (N.1 88) t (nI k), N) := by
  simp only [F_Light_colourOn, on_ps h hk ha hx, hbN_e, col_ps h hk]
/-- how many seen are unlike at a time -/
def cnd (ch : Nat → Int32) (law : Law) (st : Nat → Int32) (t i : Nat) : Bool := !decide (colS ch law st t (8 * st (15 + 3 * i) + st (14 + 3 * i)) = st (16 + 3 * i))
def cnS (ch : Nat → Int32) (law : Law) (st : Nat → Int32) (t : Nat) : Nat := fb_ct (cnd ch law st t) (st 13).toNatClampNeg
theorem RR.seen {c : Nat} {ch : Nat → Int32} {law : Law} {N : hn} (h : RR c ch law N) : ∃ s, s ≤ 8 ∧ N.1 36 2 = nI s ∧ N.1 88 13 = nI s ∧ ∀ i, i < s → ∃ k, k < 64 ∧ N.1 (36 + 2) i = nI k ∧ 8 * N.1 88 (15 + 3 * i) + N.1 88 (14 + 3 * i) = nI k ∧ N.1 (36 + 3) i = N.1 88 (16 + 3 * i) := by
  obtain ⟨hW, hD, -⟩ := h.F
  obtain ⟨-, -, -, -, -, ⟨-, -, -, -, -, s, s1, s2, s3, s4⟩, -⟩ := h
  refine ⟨s, s1, s2, s3, ?_⟩
  intro i hi
  obtain ⟨x, y, hx, hy, e1, e2, e3, e4⟩ := s4 i hi
  simp only [Nat.zero_add] at e1 e2 e4
  refine ⟨8 * y + x, by omega, e3, ?_, e4⟩
  rw [e1, e2, show (8 : Int32) = nI 8 from rfl, nI_m, nI_a]
theorem cn_ps {c : Nat} {ch : Nat → Int32} {law : Law} {N : hn} (h : RR c ch law N) {t : Nat} (ht : t < 1248) : ∃ N', F_Ps_candlesAt c (nI t) N = some (nI (cnS ch law (N.1 88) t), N') ∧ RR c ch law N' ∧ N'.1 88 = N.1 88 := by
  obtain ⟨N1, t1, t2, t3, t4⟩ := h.turn ht
  have hcc : c = 5 ∨ c = 20 := h.1
  have o88 : N1.1 88 = N.1 88 := t4.1 88 (by decide) (by decide) (by omega) (by omega)
  obtain ⟨l, l1, l2⟩ := lit_ok t3
  obtain ⟨s, s1, s2, s3, s4⟩ := t3.seen
  refine ⟨N1, ?_, t3, o88⟩
  have es : cnS ch law (N.1 88) t = fb_ct (cnd ch law (N1.1 88) t) s := by unfold cnS; rw [← o88, s3, nI_lt31 (by omega)]
  simp only [F_Ps_candlesAt, t1, hvN_e, l1, hbN_e, es]
  refine it_wp (B := B_Ps_candlesAt_1 c) (z := fun _ _ _ _ => none) (fun K k (q : Int32) => K l q (nI k) N1) s (fun k q => q = nI (fb_ct (cnd ch law (N1.1 88) t) k))
    (Q := fun x => x = some (nI (fb_ct (cnd ch law (N1.1 88) t) s), N1)) ?_ ?_ (n := hN) (k := 0) (s := 0) (by omega) (hN_big (by omega)) rfl
  · intro K q hq
    have g : nI s ≤ nI s := Int32.le_refl _
    simp only [B_Ps_candlesAt_1, s2, g, ↓reduceIte, hq]
  · intro K k q hk hq
    right
    have g1 : ¬ nI s ≤ nI k := nI_ge hk (by omega)
    have g2 : ¬ (8 : Int32) ≤ nI k := nI_ge (b := 8) (by omega) (by decide)
    have x1 : hn_ix 8 (nI k) = true := ix_ok (by omega) (by decide)
    have c1 : (nI k).toNatClampNeg = k := nI_lt31 (by omega)
    obtain ⟨pl, p1, p2, p3, p4⟩ := s4 k hk
    by_cases e : colS ch law (N1.1 88) t (nI pl) = N1.1 88 (16 + 3 * k)
    · refine ⟨q, ?_, ?_⟩
      · rw [fb_ct_succ, hq]; unfold cnd; rw [p3]; simp [e]
      · simp only [B_Ps_candlesAt_1, s2, g1, g2, ↓reduceIte, x1, hg_T, c1, p2, ps_colourOn t3 p1 t2 l2, hbN_e, p4, e, ← nI_succ]
    · refine ⟨q + 1, ?_, ?_⟩
      · rw [fb_ct_succ, hq, ← nI_succ]; congr 1; unfold cnd; rw [p3]; simp [e]
      · simp only [B_Ps_candlesAt_1, s2, g1, g2, ↓reduceIte, x1, hg_T, c1, p2, ps_colourOn t3 p1 t2 l2, hbN_e, p4, e, ← nI_succ]
theorem cn_md {c : Nat} {ch : Nat → Int32} {law : Law} {N : hn} (h : RR c ch law N) {w d : Nat} (hw : w < 52) (hd : d < 24) : ∃ N', F_Md_candlesAt c (nI w) (nI d) N = some (nI (cnS ch law (N.1 88) (w * 24 + d)), N') ∧ RR c ch law N' ∧ N'.1 88 = N.1 88 := by
  obtain ⟨N1, f1, f2, f3, f4⟩ := h.find hw hd
  have o88 : N1.1 88 = N.1 88 := f3.1 88 (by decide) (by decide) (by decide)
  obtain ⟨s, s1, s2, s3, s4⟩ := h.seen
  have s3' : N1.1 88 13 = nI s := by rw [o88]; exact s3
  refine ⟨N1, ?_, f2, o88⟩
  have es : cnS ch law (N.1 88) (w * 24 + d) = fb_ct (cnd ch law (N.1 88) (w * 24 + d)) s := by unfold cnS; rw [s3, nI_lt31 (by omega)]
  simp only [F_Md_candlesAt, f1, hvN_e, es]
  refine it_wp (B := B_Md_candlesAt_1 c) (z := fun _ _ _ => none) (fun K k (q : Int32) => K q (nI k) N1) s (fun k q => q = nI (fb_ct (cnd ch law (N.1 88) (w * 24 + d)) k))
    (Q := fun x => x = some (nI (fb_ct (cnd ch law (N.1 88) (w * 24 + d)) s), N1)) ?_ ?_ (n := hN) (k := 0) (s := 0) (by omega) (hN_big (by omega)) rfl
  · intro K q hq
    have g : nI s ≤ nI s := Int32.le_refl _
    simp only [B_Md_candlesAt_1, seens_ok, hbN_e, s3', g, ↓reduceIte, hq]
  · intro K k q hk hq
    right
    have g1 : ¬ nI s ≤ nI k := nI_ge hk (by omega)
    obtain ⟨pl, p1, p2, p3, p4⟩ := s4 k hk
    have e0 : (14 : Int32) + ((3 : Int32) * nI k) = nI (14 + 3 * k) := by rw [show (14 : Int32) = nI 14 from rfl, show (3 : Int32) = nI 3 from rfl, nI_m, nI_a]
    have e1 : nI (14 + 3 * k) + (1 : Int32) = nI (15 + 3 * k) := by rw [show (1 : Int32) = nI 1 from rfl, nI_a]; congr 1; omega
    have e2 : nI (14 + 3 * k) + (2 : Int32) = nI (16 + 3 * k) := by rw [show (2 : Int32) = nI 2 from rfl, nI_a]; congr 1; omega
    have x0 : hn_ix 1000 (nI (14 + 3 * k)) = true := ix_ok (by omega) (by decide)
    have x1 : hn_ix 1000 (nI (15 + 3 * k)) = true := ix_ok (by omega) (by decide)
    have x2 : hn_ix 1000 (nI (16 + 3 * k)) = true := ix_ok (by omega) (by decide)
    have c0 : (nI (14 + 3 * k)).toNatClampNeg = 14 + 3 * k := nI_lt31 (by omega)
    have c1 : (nI (15 + 3 * k)).toNatClampNeg = 15 + 3 * k := nI_lt31 (by omega)
    have c2 : (nI (16 + 3 * k)).toNatClampNeg = 16 + 3 * k := nI_lt31 (by omega)
    have lc := (own_md h f2 f3 p1 f4).2.1
    by_cases e : colS ch law (N.1 88) (w * 24 + d) (nI pl) = N.1 88 (16 + 3 * k)
    · refine ⟨q, ?_, ?_⟩
      · rw [fb_ct_succ, hq]; unfold cnd; rw [p3]; simp [e]
      · simp only [B_Md_candlesAt_1, B_Md_candlesAt_2, seens_ok, hbN_e, s3', g1, ↓reduceIte, hl_e, e0, e1, e2, x0, x1, x2, hg_T, c0, c1, c2, o88, p3, lc, e, Int32.add_zero, ← nI_succ]
    · refine ⟨q + 1, ?_, ?_⟩
      · rw [fb_ct_succ, hq, ← nI_succ]; congr 1; unfold cnd; rw [p3]; simp [e]
      · simp only [B_Md_candlesAt_1, B_Md_candlesAt_2, seens_ok, hbN_e, s3', g1, ↓reduceIte, hl_e, e0, e1, e2, x0, x1, x2, hg_T, c0, c1, c2, o88, p3, lc, e, ← nI_succ]
theorem a_candles {c : Nat} {ch : Nat → Int32} {law : Law} {N : hn} (h : RR c ch law N) (w d : Int32) : alike c ch law (F_Ps_candles c w d) (F_Md_candles c w d) N := by
  have z : ¬ (1 : Int32) = 0 := by decide
  by_cases ht : inR 52 w ∧ inR 24 d
  · obtain ⟨⟨w, hw, rfl⟩, ⟨d, hd, rfl⟩⟩ := ht
    obtain ⟨N1, b1, b2, b3⟩ := cn_ps h (t := w * 24 + d) (by omega)
    have hX := b2.thr (v := 0)
    obtain ⟨N2, d1, d2, d3⟩ := cn_md hX hw hd
    rw [wI_o (by decide), b3] at d1
    refine ⟨nI (cnS ch law (N.1 88) (w * 24 + d)), N1, N2, ?_, ?_, d2⟩
    · simp only [F_Ps_candles, psT_y hw hd, hbN_e, z, ↓reduceIte, F_Ps_timeOf, time_eq, b1]
    · simp only [F_Md_candles, hl_e, mdT_y hw hd, hbN_e, z, ↓reduceIte, d1]
  · refine ⟨-1, N, _, ?_, ?_, h.thr (v := 0)⟩
    · simp only [F_Ps_candles, psT_n ht, hbN_e, ↓reduceIte]
    · simp only [F_Md_candles, hl_e, mdT_n ht, hbN_e, ↓reduceIte]
/-! when -/
/-- first, fewest, how many: up to a time -/
def whS (f : Nat → Nat) : Nat → Nat × Nat × Nat
  | 0 => (0, 9, 0)
  | t + 1 => if f t < (whS f t).2.1 then (t, f t, 1) else if f t = (whS f t).2.1 then ((whS f t).1, (whS f t).2.1, (whS f t).2.2 + 1) else whS f t
theorem whS_le {f : Nat → Nat} (hf : ∀ t, f t ≤ 8) : ∀ t, (whS f t).1 ≤ t ∧ (whS f t).2.1 ≤ 9 ∧ (whS f t).2.2 ≤ t ∧ (0 < t → (whS f t).2.1 ≤ 8)
  | 0 => by simp [whS]
  | t + 1 => by
    have h := whS_le hf t
    have h2 := hf t
    rw [whS]
    split
    · refine ⟨by show t ≤ _; omega, by show f t ≤ _; omega, by show 1 ≤ _; omega, fun _ => by show f t ≤ _; omega⟩
    · split
      · refine ⟨by show (whS f t).1 ≤ _; omega, by show (whS f t).2.1 ≤ _; omega, by show (whS f t).2.2 + 1 ≤ _; omega, fun _ => by show (whS f t).2.1 ≤ _; omega⟩
      · exact ⟨by omega, by omega, by omega, fun _ => by omega⟩
theorem cn_le {ch : Nat → Int32} {law : Law} {st : Nat → Int32} {s : Nat} (hs : s ≤ 8) (e : st 13 = nI s) (t : Nat) : cnS ch law st t ≤ 8 := by
  unfold cnS; rw [e, nI_lt31 (by omega)]
  have := fb_ct_le (cnd ch law st t) s
  omega
theorem wh_ps {c : Nat} {ch : Nat → Int32} {law : Law} {N : hn} (h : RR c ch law N) {v : Int32} : ∃ N', F_Ps_when_1 c hN v (0 : Int32) (9 : Int32) (0 : Int32) (0 : Int32) N = some ((if v = 0 then nI (whS (cnS ch law (N.1 88)) 1248).1 else if v = 1 then nI (whS (cnS ch law (N.1 88)) 1248).2.1 else nI (whS (cnS ch law (N.1 88)) 1248).2.2), N') ∧ RR c ch law N' ∧ N'.1 88 = N.1 88 := by
  obtain ⟨s, s1, s2, s3, s4⟩ := h.seen
  have hf : ∀ t, cnS ch law (N.1 88) t ≤ 8 := cn_le s1 s3
  refine it_wp (B := B_Ps_when_1 c) (z := fun _ _ _ _ _ _ => none) (fun K k (q : Int32 × Int32 × Int32 × hn) => K v q.1 q.2.1 q.2.2.1 (nI k) q.2.2.2) 1248
    (fun k q => q.1 = nI (whS (cnS ch law (N.1 88)) k).1 ∧ q.2.1 = nI (whS (cnS ch law (N.1 88)) k).2.1 ∧ q.2.2.1 = nI (whS (cnS ch law (N.1 88)) k).2.2 ∧ RR c ch law q.2.2.2 ∧ q.2.2.2.1 88 = N.1 88)
    (Q := fun x => ∃ N', x = some ((if v = 0 then nI (whS (cnS ch law (N.1 88)) 1248).1 else if v = 1 then nI (whS (cnS ch law (N.1 88)) 1248).2.1 else nI (whS (cnS ch law (N.1 88)) 1248).2.2), N') ∧ RR c ch law N' ∧ N'.1 88 = N.1 88) ?_ ?_ (n := hN) (k := 0) (s := (0, 9, 0, N)) (by omega) (hN_big (by omega)) ⟨rfl, rfl, rfl, h, rfl⟩
  · rintro K ⟨a, b, d, N1⟩ ⟨i1, i2, i3, i4, i5⟩
    dsimp only at i1 i2 i3 i4 i5
    refine ⟨N1, ?_, i4, i5⟩
    have g : (1248 : Int32) ≤ nI 1248 := by decide
    simp only [B_Ps_when_1, g, ↓reduceIte, i1, i2, i3]
    split
    · rfl
    · split <;> rfl
  · rintro K t ⟨a, b, d, N1⟩ ht ⟨i1, i2, i3, i4, i5⟩
    dsimp only at i1 i2 i3 i4 i5
    right
    have g : ¬ (1248 : Int32) ≤ nI t := nI_ge (b := 1248) ht (by decide)
    obtain ⟨N2, b1, b2, b3⟩ := cn_ps i4 ht
    rw [i5] at b1 b3
    obtain ⟨w1, w2, w3, -⟩ := whS_le hf t
    have f1 := hf t
    by_cases q : cnS ch law (N.1 88) t < (whS (cnS ch law (N.1 88)) t).2.1
    · have g2 : ¬ nI (whS (cnS ch law (N.1 88)) t).2.1 ≤ nI (cnS ch law (N.1 88) t) := nI_ge q (by omega)
      refine ⟨(nI t, nI (cnS ch law (N.1 88) t), 0 + 1, N2), ⟨?_, ?_, ?_, b2, b3⟩, ?_⟩
      · rw [whS, if_pos q]
      · rw [whS, if_pos q]
      · rw [whS, if_pos q]; rfl
      · simp only [B_Ps_when_1, B_Ps_when_2, g, ↓reduceIte, b1, hbN_e, i2, g2, ← nI_succ]
    · have g2 : nI (whS (cnS ch law (N.1 88)) t).2.1 ≤ nI (cnS ch law (N.1 88) t) := nI_le (by omega) (by omega)
      by_cases q2 : cnS ch law (N.1 88) t = (whS (cnS ch law (N.1 88)) t).2.1
      · refine ⟨(a, b, d + 1, N2), ⟨?_, ?_, ?_, b2, b3⟩, ?_⟩
        · rw [whS, if_neg q, if_pos q2]; exact i1
        · rw [whS, if_neg q, if_pos q2]; exact i2
        · rw [whS, if_neg q, if_pos q2, nI_succ, ← i3]
        · have q3 : nI (cnS ch law (N.1 88) t) = nI (whS (cnS ch law (N.1 88)) t).2.1 := by rw [q2]
          simp only [B_Ps_when_1, B_Ps_when_2, g, ↓reduceIte, b1, hbN_e, i2, g2, q3, ← nI_succ]
          simp only [Int32.le_refl, ↓reduceIte]
      · have q3 : ¬ nI (cnS ch law (N.1 88) t) = nI (whS (cnS ch law (N.1 88)) t).2.1 := fun e => q2 ((nI_eqi (by omega) (by omega)).mp e)
        refine ⟨(a, b, d, N2), ⟨?_, ?_, ?_, b2, b3⟩, ?_⟩
        · rw [whS, if_neg q, if_neg q2]; exact i1
        · rw [whS, if_neg q, if_neg q2]; exact i2
        · rw [whS, if_neg q, if_neg q2]; exact i3
        · simp only [B_Ps_when_1, B_Ps_when_2, g, ↓reduceIte, b1, hbN_e, i2, g2, q3, ← nI_succ]
theorem wh_md {c : Nat} {ch : Nat → Int32} {law : Law} {N : hn} (h : RR c ch law N) {v : Int32} : ∃ N', F_Md_when_1 c hN v (100000000 : Int32) (0 : Int32) (0 : Int32) (0 : Int32) N = some ((if v = 0 then nI (whS (cnS ch law (N.1 88)) 1248).1 else if v = 1 then nI (whS (cnS ch law (N.1 88)) 1248).2.1 else nI (whS (cnS ch law (N.1 88)) 1248).2.2), N') ∧ RR c ch law N' := by
  obtain ⟨s, s1, s2, s3, s4⟩ := h.seen
  have hf : ∀ t, cnS ch law (N.1 88) t ≤ 8 := cn_le s1 s3
  refine it_wp (B := B_Md_when_1 c) (z := fun _ _ _ _ _ _ => none) (fun K k (q : Int32 × Int32 × Int32 × hn) => K v q.1 q.2.1 q.2.2.1 (nI k) q.2.2.2) 1248
    (fun k q => (q.1 = if k = 0 then nI 100000000 else nI (whS (cnS ch law (N.1 88)) k).2.1) ∧ q.2.1 = nI (whS (cnS ch law (N.1 88)) k).1 ∧ q.2.2.1 = nI (whS (cnS ch law (N.1 88)) k).2.2 ∧ RR c ch law q.2.2.2 ∧ q.2.2.2.1 88 = N.1 88)
    (Q := fun x => ∃ N', x = some ((if v = 0 then nI (whS (cnS ch law (N.1 88)) 1248).1 else if v = 1 then nI (whS (cnS ch law (N.1 88)) 1248).2.1 else nI (whS (cnS ch law (N.1 88)) 1248).2.2), N') ∧ RR c ch law N') ?_ ?_ (n := hN) (k := 0) (s := (100000000, 0, 0, N)) (by omega) (hN_big (by omega)) ⟨rfl, rfl, rfl, h, rfl⟩
  · rintro K ⟨b, a, d, N1⟩ ⟨i1, i2, i3, i4, i5⟩
    dsimp only at i1 i2 i3 i4 i5
    rw [if_neg (by decide)] at i1
    refine ⟨N1, ?_, i4⟩
    have g : (1248 : Int32) ≤ nI 1248 := by decide
    simp only [B_Md_when_1, g, ↓reduceIte, i1, i2, i3]
    split
    · rfl
    · split <;> rfl
  · rintro K t ⟨b, a, d, N1⟩ ht ⟨i1, i2, i3, i4, i5⟩
    dsimp only at i1 i2 i3 i4 i5
    right
    have g : ¬ (1248 : Int32) ≤ nI t := nI_ge (b := 1248) ht (by decide)
    obtain ⟨N2, b1, b2, b3⟩ := cn_md i4 (w := t / 24) (d := t % 24) (by omega) (by omega)
    rw [i5] at b1 b3
    rw [show t / 24 * 24 + t % 24 = t by omega] at b1
    obtain ⟨w1, w2, w3, w4⟩ := whS_le hf t
    have f1 := hf t
    -- the fewest so far, as a number
    obtain ⟨m, hm1, hm2, hm3⟩ : ∃ m, b = nI m ∧ m < 2147483648 ∧ ((cnS ch law (N.1 88) t < m ↔ cnS ch law (N.1 88) t < (whS (cnS ch law (N.1 88)) t).2.1) ∧ (cnS ch law (N.1 88) t = m ↔ cnS ch law (N.1 88) t = (whS (cnS ch law (N.1 88)) t).2.1)) ∧ (0 < t → m = (whS (cnS ch law (N.1 88)) t).2.1) := by
      by_cases e : t = 0
      · subst e
        rw [if_pos rfl] at i1
        refine ⟨100000000, i1, by decide, ?_, by omega⟩
        show (cnS ch law (N.1 88) 0 < 100000000 ↔ cnS ch law (N.1 88) 0 < 9) ∧ (cnS ch law (N.1 88) 0 = 100000000 ↔ cnS ch law (N.1 88) 0 = 9)
        omega
      · rw [if_neg e] at i1
        exact ⟨_, i1, by omega, ⟨Iff.rfl, Iff.rfl⟩, fun _ => rfl⟩
    have n1 : ¬ t + 1 = 0 := by omega
    by_cases q : cnS ch law (N.1 88) t < (whS (cnS ch law (N.1 88)) t).2.1
    · have q' := hm3.1.1.mpr q
      have g2 : ¬ nI m ≤ nI (cnS ch law (N.1 88) t) := nI_ge q' (by omega)
      refine ⟨(nI (cnS ch law (N.1 88) t), nI t, 1, N2), ⟨?_, ?_, ?_, b2, b3⟩, ?_⟩
      · rw [if_neg n1, whS, if_pos q]
      · rw [whS, if_pos q]
      · rw [whS, if_pos q]; rfl
      · simp only [B_Md_when_1, B_Md_when_2, B_Md_when_3, B_Md_when_4, g, ↓reduceIte, div24 ht, mod24 ht, b1, hbN_e, hm1, g2, ← nI_succ]
    · have q' : ¬ cnS ch law (N.1 88) t < m := fun e => q (hm3.1.1.mp e)
      have g2 : nI m ≤ nI (cnS ch law (N.1 88) t) := nI_le (by omega) (by omega)
      have t0 : 0 < t := by
        rcases Nat.eq_zero_or_pos t with e | e
        · exfalso
          subst e
          apply q
          show cnS ch law (N.1 88) 0 < 9
          omega
        · exact e
      have em := hm3.2 t0
      by_cases q2 : cnS ch law (N.1 88) t = (whS (cnS ch law (N.1 88)) t).2.1
      · have q3 : nI (cnS ch law (N.1 88) t) = nI m := by rw [em, q2]
        refine ⟨(b, a, d + 1, N2), ⟨?_, ?_, ?_, b2, b3⟩, ?_⟩
        · rw [if_neg n1, whS, if_neg q, if_pos q2, hm1, em]
        · rw [whS, if_neg q, if_pos q2]; exact i2
        · rw [whS, if_neg q, if_pos q2, nI_succ, ← i3]
        · simp only [B_Md_when_1, B_Md_when_2, B_Md_when_3, B_Md_when_4, g, ↓reduceIte, div24 ht, mod24 ht, b1, hbN_e, hm1, g2, q3, ← nI_succ]
          simp only [Int32.le_refl, ↓reduceIte]
      · have q3 : ¬ nI (cnS ch law (N.1 88) t) = nI m := fun e => q2 (by rw [← em]; exact (nI_eqi (by omega) (by omega)).mp e)
        refine ⟨(b, a, d, N2), ⟨?_, ?_, ?_, b2, b3⟩, ?_⟩
        · rw [if_neg n1, whS, if_neg q, if_neg q2, hm1, em]
        · rw [whS, if_neg q, if_neg q2]; exact i2
        · rw [whS, if_neg q, if_neg q2]; exact i3
        · simp only [B_Md_when_1, B_Md_when_2, B_Md_when_3, B_Md_when_4, g, ↓reduceIte, div24 ht, mod24 ht, b1, hbN_e, hm1, g2, q3, ← nI_succ]
theorem a_when {c : Nat} {ch : Nat → Int32} {law : Law} {N : hn} (h : RR c ch law N) (v : Int32) : alike c ch law (F_Ps_when c v) (F_Md_when c v) N := by
  have z : ¬ (1 : Int32) = 0 := by decide
  by_cases hv : inR 3 v
  · obtain ⟨k, hk, rfl⟩ := hv
    obtain ⟨N1, b1, b2, b3⟩ := wh_ps h (v := nI k)
    have hX := b2.thr (v := 0)
    obtain ⟨N2, d1, d2⟩ := wh_md hX (v := nI k)
    rw [wI_o (by decide), b3] at d1
    have ew : F_Md_within c (nI k) (0 : Int32) (2 : Int32) (hn_wI N1 76 0 0) = some (1, _) := mdW_y (k := 2) (by decide) hk
    have g1 : ¬ nI k < 0 := nI_nn (by omega)
    have g2 : nI k ≤ (2 : Int32) := nI_le (b := 2) (by omega) (by decide)
    refine ⟨(if nI k = 0 then nI (whS (cnS ch law (N.1 88)) 1248).1 else if nI k = 1 then nI (whS (cnS ch law (N.1 88)) 1248).2.1 else nI (whS (cnS ch law (N.1 88)) 1248).2.2), N1, N2, ?_, ?_, d2⟩
    · simp only [F_Ps_when, g1, g2, ↓reduceIte]
      exact b1
    · simp only [F_Md_when, hl_e, ew, hbN_e, z, ↓reduceIte]
      exact d1
  · have ew : F_Md_within c v (0 : Int32) (2 : Int32) (hn_wI N 76 0 0) = some (0, _) := mdW_n (k := 2) (by decide) hv
    refine ⟨-1, N, _, ?_, ?_, h.thr (v := 0)⟩
    · rcases inR_n (by decide) hv with q | ⟨q1, q2⟩
      · simp only [F_Ps_when, q, ↓reduceIte]
      · have q3 : ¬ v ≤ (2 : Int32) := by
          rw [fa_le, nI_toInt (by decide)] at q2
          rw [fa_le]
          have : (2 : Int32).toInt = 2 := by decide
          omega
        simp only [F_Ps_when, q1, q3, ↓reduceIte]
    · simp only [F_Md_when, hl_e, ew, hbN_e, ↓reduceIte]
