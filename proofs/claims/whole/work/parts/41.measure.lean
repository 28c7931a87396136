/-! what panes yield in a year: the class's side -/
theorem lN_a (a b : Nat) : lN a + lN b = lN (a + b) := by simp [lN, Int64.ofNat_add]
theorem lN_m (a b : Nat) : lN a * lN b = lN (a * b) := by simp [lN, Int64.ofNat_mul]
theorem lN_s {a b : Nat} (h : b ≤ a) : lN a - lN b = lN (a - b) := by
  have e : lN a = lN (a - b) + lN b := by rw [lN_a]; congr 1; omega
  rw [e, Int64.add_sub_cancel]
theorem lN_d {a b : Nat} (ha : a < 9223372036854775808) (hb : b < 9223372036854775808) : lN a / lN b = lN (a / b) := by
  have h1 : (lN a).toInt = a := pf_lI (by omega)
  have h2 : (lN b).toInt = b := pf_lI (by omega)
  have h3 : a / b ≤ a := Nat.div_le_self a b
  have h4 : (lN (a / b)).toInt = (a / b : Nat) := pf_lI (by omega)
  apply Int64.toInt_inj.mp
  rw [Int64.toInt_div, h1, h2, h4]
  have h5 : (a : Int).tdiv (b : Int) = ((a / b : Nat) : Int) := by
    rw [Int.tdiv_eq_ediv_of_nonneg (by omega)]; simp
  rw [h5]
  clear h4 h5
  generalize a / b = q at h3 ⊢
  exact fb_bmodL (by omega) (by omega)
theorem lN_r {a b : Nat} (ha : a < 9223372036854775808) (hb : b < 9223372036854775808) : lN a - lN a / lN b * lN b = lN (a % b) := by
  rw [lN_d ha hb, lN_m]
  have h := Nat.div_add_mod a b
  have e : a / b * b = b * (a / b) := Nat.mul_comm _ _
  rw [lN_s (by omega)]
  congr 1
  omega
theorem lgl {x y : Int64} : lg_cmp x y < 0 ↔ x < y := by
  unfold lg_cmp
  by_cases h : x > y
  · rw [if_pos h]
    constructor
    · intro e; exact absurd e (by decide)
    · intro e; exact absurd (Int64.lt_trans h e) (Int64.lt_irrefl)
  · rw [if_neg h]
    by_cases e : x = y
    · rw [if_pos e]
      constructor
      · intro q; exact absurd q (by decide)
      · intro q; subst e; exact absurd q (Int64.lt_irrefl)
    · rw [if_neg e]
      constructor
      · intro _
        rw [gt_iff_lt, Int64.lt_iff_toInt_lt] at h
        rw [Int64.lt_iff_toInt_lt]
        have : x.toInt ≠ y.toInt := fun q => e (Int64.toInt_inj.mp q)
        omega
      · intro _; decide
theorem lN_lti {a b : Nat} (ha : a < 9223372036854775808) (hb : b < 9223372036854775808) : lN a < lN b ↔ a < b := by
  rw [Int64.lt_iff_toInt_lt, pf_lI (by omega), pf_lI (by omega)]; omega
def gN (seed : Nat) : Nat → Nat
  | 0 => seed
  | t + 1 => (gN seed t * 1103515245 + 12345) % 2147483648
theorem gN_lt {seed : Nat} (h : seed < 10000) : ∀ t, gN seed t < 2147483648
  | 0 => by rw [gN]; omega
  | t + 1 => by rw [gN]; exact Nat.mod_lt _ (by decide)
theorem gN_step {seed : Nat} (h : seed < 10000) (t : Nat) : ((lN (gN seed t) * (1103515245 : Int64)) + (12345 : Int64)) - ((lN (gN seed t) * (1103515245 : Int64)) + (12345 : Int64)) / (2147483648 : Int64) * (2147483648 : Int64) = lN (gN seed (t + 1)) := by
  have h1 := gN_lt h t
  rw [show (1103515245 : Int64) = lN 1103515245 from rfl, show (12345 : Int64) = lN 12345 from rfl, show (2147483648 : Int64) = lN 2147483648 from rfl, lN_m, lN_a, lN_r (by omega) (by decide), gN]
theorem gN_draw {seed : Nat} (h : seed < 10000) (t : Nat) : (lN (gN seed t) / (65536 : Int64)) - (lN (gN seed t) / (65536 : Int64)) / (8 : Int64) * (8 : Int64) = lN (gN seed t / 65536 % 8) := by
  have h1 := gN_lt h t
  rw [show (65536 : Int64) = lN 65536 from rfl, show (8 : Int64) = lN 8 from rfl, lN_d (by omega) (by decide), lN_r (by omega) (by decide)]
def smS (f : Nat → Int32) : Nat → Int32
  | 0 => 0
  | n + 1 => smS f n + f n
theorem smS_cong {f g : Nat → Int32} : ∀ {n : Nat}, (∀ i, i < n → f i = g i) → smS f n = smS g n
  | 0, _ => rfl
  | n + 1, h => by rw [smS, smS, smS_cong (fun i hi => h i (by omega)), h n (by omega)]
/-- YIELD by the clouds of a seed -/
def yldS (ch : Nat → Int32) (law : Law) (seed C : Nat) (L : Nat → Bool) (p : Nat) : Int32 := smS (fun t => if gN seed (t + 1) / 65536 % 8 < C then 0 else shS ch law L t p) 1248
def offR (c y : Nat) (N N' : hn) : Prop := (∀ b, b ≠ 19 → b ≠ 34 → b ≠ 44 → b ≠ c + 12 → b ≠ c + 13 → N'.1 b = N.1 b) ∧ (∀ b, b ≠ 35 → N'.2 b = N.2 b) ∧ (∀ j, (j < y * 12 ∨ y * 12 + 12 ≤ j) → N'.1 44 j = N.1 44 j)
theorem offR.refl {c y : Nat} {N : hn} : offR c y N N := ⟨fun _ _ _ _ _ _ => rfl, fun _ _ => rfl, fun _ _ => rfl⟩
theorem offR.trans {c y : Nat} {N N1 N2 : hn} (h : offR c y N N1) (h2 : offR c y N1 N2) : offR c y N N2 :=
  ⟨fun b a1 a2 a3 a4 a5 => (h2.1 b a1 a2 a3 a4 a5).trans (h.1 b a1 a2 a3 a4 a5), fun b a => (h2.2.1 b a).trans (h.2.1 b a), fun j hj => (h2.2.2 j hj).trans (h.2.2 j hj)⟩
theorem offR.ofL {c y : Nat} (hc : isChap c) {N N' : hn} (h : offL c N N') : offR c y N N' := by
  have hcc : c = 5 ∨ c = 20 := hc
  exact ⟨fun b a1 a2 _ a4 a5 => h.1 b a1 a2 a4 a5, h.2, fun j _ => by rw [h.1 44 (by decide) (by decide) (by omega) (by omega)]⟩
theorem offR.ofS {c y : Nat} {N N' : hn} (h : offS c y N N') : offR c y N N' := ⟨fun b _ _ a3 a4 a5 => h.1 b a3 a4 a5, fun b _ => by rw [h.2.1], h.2.2.2.2⟩
theorem litP.offS {c y : Nat} (hc : isChap c) {ch : Nat → Int32} {law : Law} {N N' : hn} (h : litP c ch law N) (ho : offS c y N N') : litP c ch law N' := by
  have hcc : c = 5 ∨ c = 20 := hc
  have e19 : N'.1 19 = N.1 19 := ho.1 19 (by decide) (by omega) (by omega)
  have e34 : N'.1 34 = N.1 34 := ho.1 34 (by decide) (by omega) (by omega)
  refine ⟨?_, ?_⟩
  · unfold yrP; rw [ho.2.1]; exact h.1
  · rw [e19]
    rcases h.2 with q | ⟨t, ht, q1, q2, q3, q4⟩
    · exact Or.inl q
    · refine Or.inr ⟨t, ht, ?_, ?_, ?_, ?_⟩
      · rw [e19]; exact q1
      · rw [ho.2.2.1]; exact q2
      · rw [ho.2.2.2.1]; exact q3
      · rw [e34]; exact q4
theorem chapP.offR {c y : Nat} (hc : isChap c) {ch : Nat → Int32} {law : Law} {N N' : hn} (h : chapP c ch law N) (ho : offR c y N N') : chapP c ch law N' := by
  have hcc : c = 5 ∨ c = 20 := hc
  exact h.off hc (fun b h1 h2 => ho.1 b (by omega) (by omega) (by omega) (by omega) (by omega))
theorem measure_2 {c : Nat} (hc : isChap c) {ch : Nat → Int32} {law : Law} {N : hn} (hch : chOK ch) (hl : lawOK law) (h : chapP c ch law N) (hp : litP c ch law N) {seed C y : Nat} (hs : seed < 10000) (hC : C ≤ 8) (hy : y < 17) {lit : Int32}
    (h0 : ∀ q, q < 12 → N.1 44 (y * 12 + q) = 0) :
    ∃ N', F_Rents_measure_2 c hN lit (nI C) (nI y) (lN seed) (0 : Int32) N = some N' ∧ offR c y N N' ∧ litP c ch law N' ∧ ∀ q, q < 12 → N'.1 44 (y * 12 + q) = yldS ch law seed C (bt lit) q := by
  refine it_wp (B := B_Rents_measure_2 c) (z := fun _ _ _ _ _ _ => none) (fun K k (s : Int64 × hn) => K lit (nI C) (nI y) s.1 (nI k) s.2) 1248
    (fun t s => s.1 = lN (gN seed t) ∧ offR c y N s.2 ∧ litP c ch law s.2 ∧ ∀ q, q < 12 → s.2.1 44 (y * 12 + q) = smS (fun t => if gN seed (t + 1) / 65536 % 8 < C then 0 else shS ch law (bt lit) t q) t)
    (Q := fun x => ∃ N', x = some N' ∧ offR c y N N' ∧ litP c ch law N' ∧ ∀ q, q < 12 → N'.1 44 (y * 12 + q) = yldS ch law seed C (bt lit) q) ?_ ?_ (n := hN) (k := 0) (s := (lN seed, N)) (by omega) (hN_big (by omega)) ⟨rfl, offR.refl, hp, h0⟩
  · rintro K ⟨g, s⟩ ⟨i1, i2, i3, i4⟩
    refine ⟨s, ?_, i2, i3, i4⟩
    have g : (1248 : Int32) ≤ nI 1248 := by decide
    simp only [B_Rents_measure_2, g, ↓reduceIte]
  · rintro K t ⟨g, s⟩ ht ⟨i1, i2, i3, i4⟩
    dsimp only at i1 i2 i3 i4
    subst i1
    right
    have g1 : ¬ (1248 : Int32) ≤ nI t := nI_ge (b := 1248) ht (by decide)
    have hv : gN seed (t + 1) / 65536 % 8 < 8 := Nat.mod_lt _ (by decide)
    by_cases hsel : gN seed (t + 1) / 65536 % 8 < C
    · have g2 : lg_cmp (lN (gN seed (t + 1) / 65536 % 8)) (nI C).toInt64 < 0 := by rw [lgl, nI_64 (by omega), lN_lti (by omega) (by omega)]; exact hsel
      refine ⟨(lN (gN seed (t + 1)), s), ⟨rfl, i2, i3, ?_⟩, ?_⟩
      · intro q hq
        rw [smS, if_pos hsel, Int32.add_zero]; exact i4 q hq
      · simp only [B_Rents_measure_2, g1, ↓reduceIte, hl_e, gN_step hs, gN_draw hs, g2, ← nI_succ]
    · have g2 : ¬ lg_cmp (lN (gN seed (t + 1) / 65536 % 8)) (nI C).toInt64 < 0 := by rw [lgl, nI_64 (by omega), lN_lti (by omega) (by omega)]; exact hsel
      have h1 : chapP c ch law s := h.offR hc i2
      obtain ⟨N1, a1, a2, a3, a4⟩ := turnTo_ok hc hch hl h1 i3 ht
      obtain ⟨N2, b1, b2, b3⟩ := shareOut_ok hc hch hl (h1.offL hc a4) hy a2 (lit := lit)
      have a5 : offR c y s N1 := offR.ofL hc a4
      refine ⟨(lN (gN seed (t + 1)), N2), ⟨rfl, i2.trans (a5.trans (offR.ofS b2)), a3.offS hc b2, ?_⟩, ?_⟩
      · intro q hq
        have hcc : c = 5 ∨ c = 20 := hc
        rw [smS, if_neg hsel]
        show N2.1 44 (y * 12 + q) = _
        rw [b3 q hq, a4.1 44 (by decide) (by decide) (by omega) (by omega), i4 q hq]
      · simp only [B_Rents_measure_2, g1, ↓reduceIte, hl_e, gN_step hs, gN_draw hs, g2, a1, hvN_e, b1, ← nI_succ]
theorem measure_ok {c : Nat} (hc : isChap c) {ch : Nat → Int32} {law : Law} {N : hn} (hch : chOK ch) (hl : lawOK law) (h : chapP c ch law N) (hp : litP c ch law N) {seed C y : Nat} (hs : seed < 10000) (hC : C ≤ 8) (hy : y < 17) {lit : Int32} :
    ∃ N', F_Rents_measure c lit (nI seed) (nI C) (nI y) N = some N' ∧ offR c y N N' ∧ litP c ch law N' ∧ ∀ q, q < 12 → N'.1 44 (y * 12 + q) = yldS ch law seed C (bt lit) q := by
  have hcc : c = 5 ∨ c = 20 := hc
  refine it_wp (B := B_Rents_measure_1 c) (z := fun _ _ _ _ _ _ => none) (fun K k (s : hn) => K lit (nI seed) (nI C) (nI y) (nI k) s) 12
    (fun k s => off1 44 N s ∧ (∀ q, q < k → s.1 44 (y * 12 + q) = 0) ∧ ∀ j, (j < y * 12 ∨ y * 12 + 12 ≤ j) → s.1 44 j = N.1 44 j)
    (Q := fun x => ∃ N', x = some N' ∧ offR c y N N' ∧ litP c ch law N' ∧ ∀ q, q < 12 → N'.1 44 (y * 12 + q) = yldS ch law seed C (bt lit) q) ?_ ?_ (n := hN) (k := 0) (s := N) (by omega) (hN_big (by omega)) ⟨off1.refl, fun q hq => absurd hq (Nat.not_lt_zero q), fun _ _ => rfl⟩
  · rintro K s ⟨i1, i2, i3⟩
    have o1 : offS c y N s := ⟨fun b b1 _ _ => i1.1 b b1, i1.2, by rw [i1.1 _ (by omega)], by rw [i1.1 _ (by omega)], i3⟩
    obtain ⟨N', a1, a2, a3, a4⟩ := measure_2 hc hch hl (h.offR hc (offR.ofS o1)) (hp.offS hc o1) hs hC hy (lit := lit) i2
    refine ⟨N', ?_, (offR.ofS o1).trans a2, a3, a4⟩
    have g : (12 : Int32) ≤ nI 12 := by decide
    have e : (nI seed).toInt64 = lN seed := nI_64 (by omega)
    simp only [B_Rents_measure_1, g, ↓reduceIte, hl_e, e]
    exact a1
  · rintro K k s hk ⟨i1, i2, i3⟩
    right
    have g : ¬ (12 : Int32) ≤ nI k := nI_ge (b := 12) hk (by decide)
    have e : (nI y * (12 : Int32)) + nI k = nI (y * 12 + k) := by rw [show (12 : Int32) = nI 12 from rfl, nI_m, nI_a]
    have x1 : hn_ix 204 (nI (y * 12 + k)) = true := ix_ok (by omega) (by decide)
    have c1 : (nI (y * 12 + k)).toNatClampNeg = y * 12 + k := nI_lt31 (by omega)
    refine ⟨hn_wI s 44 (y * 12 + k) 0, ⟨i1.trans off1.w, ?_, ?_⟩, ?_⟩
    · intro q hq
      by_cases e2 : q = k
      · subst e2; rw [wI_s]
      · rw [wI_n (by omega)]; exact i2 q (by omega)
    · intro j hj; rw [wI_n (by omega)]; exact i3 j hj
    · simp only [B_Rents_measure_1, g, ↓reduceIte, e, x1, hg_T, c1, hl_e, ← nI_succ]
theorem min_nI {a b : Nat} (ha : a < 2147483648) (hb : b < 2147483648) : hm_min (nI a) (nI b) = nI (min a b) := by
  unfold hm_min
  by_cases q : nI b < nI a
  · rw [if_pos q]
    rw [nI_lti hb ha] at q
    rw [show min a b = b by omega]
  · rw [if_neg q]
    rw [nI_lti hb ha] at q
    rw [show min a b = a by omega]
/-! the years kept -/
def rentP (ch : Nat → Int32) (law : Law) (N : hn) : Prop :=
  ∃ K o, K ≤ 16 ∧ o < 16 ∧ (K < 16 → o = K) ∧ N.1 43 2 = nI K ∧ N.1 43 3 = nI o ∧ ∀ i, i < K → ∀ q, q < 12 → N.1 44 (i * 12 + q) = yldS ch law 0 0 (bt (N.1 45 i)) q
def offQ (c : Nat) (N N' : hn) : Prop := (∀ b, (b ≤ 4 ∨ (5 ≤ b ∧ b ≤ 33 ∧ b ≠ 19 ∧ b ≠ c + 12 ∧ b ≠ c + 13) ∨ (36 ≤ b ∧ b ≤ 42) ∨ 59 ≤ b) → N'.1 b = N.1 b) ∧ (∀ b, b ≠ 35 → b ≠ 52 → N'.2 b = N.2 b)
theorem offQ.refl {c : Nat} {N : hn} : offQ c N N := ⟨fun _ _ => rfl, fun _ _ _ => rfl⟩
theorem offQ.trans {c : Nat} {N N1 N2 : hn} (h : offQ c N N1) (h2 : offQ c N1 N2) : offQ c N N2 := ⟨fun b hb => (h2.1 b hb).trans (h.1 b hb), fun b a1 a2 => (h2.2 b a1 a2).trans (h.2 b a1 a2)⟩
theorem offQ.ofL {c : Nat} (hc : isChap c) {N N' : hn} (h : offL c N N') : offQ c N N' := by
  have hcc : c = 5 ∨ c = 20 := hc
  exact ⟨fun b hb => h.1 b (by omega) (by omega) (by omega) (by omega), fun b b1 _ => h.2 b b1⟩
theorem offQ.ofR {c y : Nat} (hc : isChap c) {N N' : hn} (h : offR c y N N') : offQ c N N' := by
  have hcc : c = 5 ∨ c = 20 := hc
  exact ⟨fun b hb => h.1 b (by omega) (by omega) (by omega) (by omega) (by omega), fun b b1 _ => h.2.1 b b1⟩
theorem chapP.offQ {c : Nat} (hc : isChap c) {ch : Nat → Int32} {law : Law} {N N' : hn} (h : chapP c ch law N) (ho : offQ c N N') : chapP c ch law N' := by
  have hcc : c = 5 ∨ c = 20 := hc
  exact h.off hc (fun b h1 h2 => ho.1 b (by omega))
theorem rentP.off {ch : Nat → Int32} {law : Law} {N N' : hn} (h : rentP ch law N) (h43 : N'.1 43 = N.1 43) (h44 : N'.1 44 = N.1 44) (h45 : N'.1 45 = N.1 45) : rentP ch law N' := by
  unfold rentP; rw [h43, h44, h45]; exact h
theorem rentP.offL {c : Nat} (hc : isChap c) {ch : Nat → Int32} {law : Law} {N N' : hn} (h : rentP ch law N) (ho : offL c N N') : rentP ch law N' := by
  have hcc : c = 5 ∨ c = 20 := hc
  exact h.off (ho.1 43 (by decide) (by decide) (by omega) (by omega)) (ho.1 44 (by decide) (by decide) (by omega) (by omega)) (ho.1 45 (by decide) (by decide) (by omega) (by omega))
theorem yearOf_ok {c : Nat} (hc : isChap c) {ch : Nat → Int32} {law : Law} {N : hn} (hch : chOK ch) (hl : lawOK law) (h : chapP c ch law N) (hp : litP c ch law N) (hr : rentP ch law N) {lit : Int32} :
    ∃ y N', F_Rents_yearOf c lit N = some (nI y, N') ∧ y < 17 ∧ (∀ q, q < 12 → N'.1 44 (y * 12 + q) = yldS ch law 0 0 (bt lit) q) ∧ litP c ch law N' ∧ rentP ch law N' ∧ offQ c N N' ∧ N'.1 46 = N.1 46 := by
  have hcc : c = 5 ∨ c = 20 := hc
  obtain ⟨K, o, r1, r2, r3, r4, r5, r6⟩ := id hr
  -- a new year
  have new : ∃ y N', B_Rents_yearOf_2 c lit N = some (nI y, N') ∧ y < 17 ∧ (∀ q, q < 12 → N'.1 44 (y * 12 + q) = yldS ch law 0 0 (bt lit) q) ∧ litP c ch law N' ∧ rentP ch law N' ∧ offQ c N N' ∧ N'.1 46 = N.1 46 := by
    have e1 : (nI o + (1 : Int32)) - (nI o + (1 : Int32)) / (16 : Int32) * (16 : Int32) = nI ((o + 1) % 16) := by
      rw [← nI_succ]; exact nI_r (b := 16) (by omega) (by decide)
    have e2 : hm_min (nI K + (1 : Int32)) (16 : Int32) = nI (min (K + 1) 16) := by
      rw [← nI_succ]; exact min_nI (b := 16) (by omega) (by decide)
    obtain ⟨N4, e4⟩ : ∃ N4, N4 = hn_wI (hn_wI (hn_wI N 43 3 (nI ((o + 1) % 16))) 43 2 (nI (min (K + 1) 16))) 45 o lit := ⟨_, rfl⟩
    have o4 : ∀ b, b ≠ 43 → b ≠ 45 → N4.1 b = N.1 b := fun b b1 b2 => by rw [e4, wI_o b2, wI_o b1, wI_o b1]
    have l4 : N4.2 = N.2 := by rw [e4]; rfl
    have h4 : chapP c ch law N4 := h.off hc (fun b _ _ => o4 b (by omega) (by omega))
    have p4 : litP c ch law N4 := by
      refine ⟨?_, ?_⟩
      · unfold yrP; rw [l4]; exact hp.1
      · unfold atT; rw [o4 19 (by decide) (by decide), o4 34 (by decide) (by decide), o4 (c + 13) (by omega) (by omega)]; exact hp.2
    obtain ⟨N', a1, a2, a3, a4⟩ := measure_ok hc hch hl h4 p4 (seed := 0) (C := 0) (y := o) (by decide) (by decide) (by omega) (lit := lit)
    refine ⟨o, N', ?_, by omega, a4, a3, ?_, ?_, ?_⟩
    · have x1 : hn_ix 16 (nI o) = true := ix_ok r2 (by decide)
      have c1 : (nI o).toNatClampNeg = o := nI_lt31 (by omega)
      have a1' : F_Rents_measure c lit (0 : Int32) (0 : Int32) (nI o) N4 = some N' := a1
      have k2 : (hn_wI N 43 3 (nI ((o + 1) % 16))).1 43 2 = nI K := by rw [wI_n (by decide)]; exact r4
      simp only [B_Rents_yearOf_2, hl_e, r5, e1, k2, e2, x1, hg_T, c1]
      rw [← e4, a1', hvN_e]
    · refine ⟨min (K + 1) 16, (o + 1) % 16, by omega, by omega, by omega, ?_, ?_, ?_⟩
      · rw [a2.1 43 (by decide) (by decide) (by decide) (by omega) (by omega), e4, wI_o (by decide), wI_s]
      · rw [a2.1 43 (by decide) (by decide) (by decide) (by omega) (by omega), e4, wI_o (by decide), wI_n (by decide), wI_s]
      · intro i hi q hq
        rw [a2.1 45 (by decide) (by decide) (by decide) (by omega) (by omega)]
        by_cases ei : i = o
        · subst ei
          rw [a4 q hq, e4, wI_s]
        · have hK : i < K := by
            rcases Nat.lt_or_ge K 16 with z | z
            · have := r3 z; omega
            · omega
          rw [a2.2.2 (i * 12 + q) (by omega), o4 44 (by decide) (by decide), e4, wI_n ei, wI_o (by decide), wI_o (by decide)]
          exact r6 i hK q hq
    · have := offQ.ofR hc a2
      refine ⟨fun b hb => ?_, fun b b1 b2 => ?_⟩
      · rw [this.1 b hb, o4 b (by omega) (by omega)]
      · rw [this.2 b b1 b2, l4]
    · rw [a2.1 46 (by decide) (by decide) (by decide) (by omega) (by omega), o4 46 (by decide) (by decide)]
  refine it_wp (B := B_Rents_yearOf_1 c) (z := fun _ _ _ => none) (fun K' k (s : Unit) => K' lit (nI k) N) K (fun _ _ => True)
    (Q := fun x => ∃ y N', x = some (nI y, N') ∧ y < 17 ∧ (∀ q, q < 12 → N'.1 44 (y * 12 + q) = yldS ch law 0 0 (bt lit) q) ∧ litP c ch law N' ∧ rentP ch law N' ∧ offQ c N N' ∧ N'.1 46 = N.1 46) ?_ ?_ (n := hN) (k := 0) (s := ()) (by omega) (hN_big (by omega)) trivial
  · intro K' _ _
    have g : nI K ≤ nI K := Int32.le_refl _
    simp only [B_Rents_yearOf_1, r4, g, ↓reduceIte]
    exact new
  · intro K' k _ hk _
    have g1 : ¬ nI K ≤ nI k := nI_ge hk (by omega)
    have g2 : ¬ (16 : Int32) ≤ nI k := nI_ge (b := 16) (by omega) (by decide)
    have x1 : hn_ix 16 (nI k) = true := ix_ok (by omega) (by decide)
    have c1 : (nI k).toNatClampNeg = k := nI_lt31 (by omega)
    by_cases e : N.1 45 k = lit
    · left
      refine ⟨k, N, ?_, by omega, ?_, hp, hr, offQ.refl, rfl⟩
      · simp only [B_Rents_yearOf_1, r4, g1, g2, ↓reduceIte, x1, hg_T, c1, e]
      · intro q hq; rw [r6 k hk q hq, e]
    · right
      refine ⟨(), trivial, ?_⟩
      simp only [B_Rents_yearOf_1, r4, g1, g2, ↓reduceIte, x1, hg_T, c1, e, ← nI_succ]
