/-! rows of places: the class's side -/
theorem RR.scr {c v : Nat} (hv : 46 ≤ v ∧ v ≤ 58) {ch : Nat → Int32} {law : Law} {N N' : hn} (h : RR c ch law N) (ho : off1 v N N') : RR c ch law N' := by
  have hcc : c = 5 ∨ c = 20 := h.1
  obtain ⟨-, -, -, ⟨-, a5, a6⟩, -⟩ := id h
  refine h.qP ⟨fun b hb => ho.1 b (by omega), fun b _ _ => by rw [ho.2]⟩ ⟨?_, ?_⟩ (a6.off (ho.1 _ (by omega)) (ho.1 _ (by omega)) (ho.1 _ (by omega)))
  · unfold yrP; rw [ho.2]; exact a5.1
  · unfold atT; rw [ho.1 19 (by omega), ho.1 34 (by omega), ho.1 (c + 13) (by omega)]; exact a5.2
theorem atT.off {c v : Nat} (hc : isChap c) (hv : 46 ≤ v ∧ v ≤ 58) {ch : Nat → Int32} {law : Law} {t : Nat} {N N' : hn} (h : atT c ch law t N) (ho : off1 v N N') : atT c ch law t N' := by
  have hcc : c = 5 ∨ c = 20 := hc
  unfold atT; rw [ho.1 19 (by omega), ho.1 34 (by omega), ho.1 (c + 13) (by omega)]; exact h
/-- a place on the floor -/
def onP (ch : Nat → Int32) (k : Nat) : Bool := decide (k % 8 < nW ch) && decide (k / 8 < nD ch)
/-- the colour told of an hour -/
def hcS (cols : Int32) (h : Nat) : Int32 := (cols >>> (nI (3 * h) &&& 31)) &&& 7
def mayS (ch : Nat → Int32) (law : Law) (st : Nat → Int32) (t : Nat) (cols : Int32) (h k : Nat) : Bool := onP ch k && decide (colS ch law st (t + h) (nI k) = hcS cols h)
theorem div8 {k : Nat} (hk : k < 64) : nI k / (8 : Int32) = nI (k / 8) := nI_d (b := 8) (by omega) (by decide)
theorem mod8 {k : Nat} (hk : k < 64) : nI k - nI (k / 8) * (8 : Int32) = nI (k % 8) := by rw [← div8 hk]; exact nI_r (b := 8) (by omega) (by decide)
theorem ps_onP {c : Nat} {ch : Nat → Int32} {law : Law} {N : hn} (h : RR c ch law N) {k : Nat} (hk : k < 64) : F_Chapel_hasPlace c c (nI (k % 8)) (nI (k / 8)) N = some ((if onP ch k then 1 else 0), N) := by
  obtain ⟨hW, hD, p0, p1, -, -, -, -⟩ := h.F
  unfold onP
  by_cases q1 : k % 8 < nW ch
  · by_cases q2 : k / 8 < nD ch
    · rw [psO_y (by omega) (by omega) q1 q2 p0 p1]; simp [q1, q2]
    · rw [psO_n (W := nW ch) (D := nD ch) (by omega) (by omega) (fun z => by obtain ⟨-, g, g1, g2⟩ := z; have := (nI_eqi (by omega) (by omega)).mp g2; omega) p0 p1]; simp [q2]
  · rw [psO_n (W := nW ch) (D := nD ch) (by omega) (by omega) (fun z => by obtain ⟨⟨g, g1, g2⟩, -⟩ := z; have := (nI_eqi (by omega) (by omega)).mp g2; omega) p0 p1]; simp [q1]
theorem ib5 {v : Nat} (hv : v = 56 ∨ v = 57) {k : Nat} (hk : k < 64) : hm_ib S0 v .int (nI k) = true := by
  rcases hv with rfl | rfl
  · rw [ib_56]; exact ix_ok hk (by decide)
  · rw [ib_57]; exact ix_ok hk (by decide)
theorem keep_ok {c : Nat} {ch : Nat → Int32} {law : Law} {N : hn} (h : RR c ch law N) {t hr v : Nat} (hv : v = 56 ∨ v = 57) (ht : t + hr < 1248) (hh : hr < 6) {lit cols : Int32} (hl : ∀ i, i < 32 → bt lit i = (decide (i < nP ch) && !bt (N.1 88 12) i)) :
    ∃ N', F_Walk_keepColoured c lit (nI t) cols (nI hr) v N = some N' ∧ RR c ch law N' ∧ N'.1 88 = N.1 88 ∧ atT c ch law (t + hr) N' ∧ (∀ k, k < 64 → N'.1 v k = if mayS ch law (N.1 88) t cols hr k then N.1 v k else 0) ∧ ∀ b, 46 ≤ b → b ≤ 58 → b ≠ v → N'.1 b = N.1 b := by
  obtain ⟨N1, t1, t2, t3, t4⟩ := h.turn ht
  have hcc : c = 5 ∨ c = 20 := h.1
  have o88 : N1.1 88 = N.1 88 := t4.1 88 (by decide) (by decide) (by omega) (by omega)
  have e1 : nI t + nI hr = nI (t + hr) := nI_a t hr
  have e3 : (3 : Int32) * nI hr = nI (3 * hr) := by rw [show (3 : Int32) = nI 3 from rfl, nI_m]
  have lead : F_Walk_keepColoured c lit (nI t) cols (nI hr) v N = F_Walk_keepColoured_1 c hN lit v (hcS cols hr) (0 : Int32) N1 := by
    simp only [F_Walk_keepColoured, e1, t1, hvN_e, hl_e, e3]
    rfl
  rw [lead]
  have vb : 46 ≤ v ∧ v ≤ 58 := by omega
  refine it_wp (B := B_Walk_keepColoured_1 c) (z := fun _ _ _ _ _ => none) (fun K k (s : hn) => K lit v (hcS cols hr) (nI k) s) 64
    (fun k s => off1 v N1 s ∧ (∀ j, j < k → s.1 v j = if mayS ch law (N.1 88) t cols hr j then N.1 v j else 0) ∧ ∀ j, k ≤ j → s.1 v j = N.1 v j)
    (Q := fun x => ∃ N', x = some N' ∧ RR c ch law N' ∧ N'.1 88 = N.1 88 ∧ atT c ch law (t + hr) N' ∧ (∀ k, k < 64 → N'.1 v k = if mayS ch law (N.1 88) t cols hr k then N.1 v k else 0) ∧ ∀ b, 46 ≤ b → b ≤ 58 → b ≠ v → N'.1 b = N.1 b) ?_ ?_ (n := hN) (k := 0) (s := N1) (by omega) (hN_big (by omega)) ⟨off1.refl, fun j hj => absurd hj (Nat.not_lt_zero j), fun j _ => by rw [t4.1 v (by omega) (by omega) (by omega) (by omega)]⟩
  · rintro K s ⟨i1, i2, i3⟩
    refine ⟨s, ?_, t3.scr vb i1, ?_, t2.off h.1 vb i1, i2, ?_⟩
    · have g : (64 : Int32) ≤ nI 64 := by decide
      simp only [B_Walk_keepColoured_1, g, ↓reduceIte]
    · rw [i1.1 88 (by omega)]; exact o88
    · intro b b1 b2 b3; rw [i1.1 b b3, t4.1 b (by omega) (by omega) (by omega) (by omega)]
  · rintro K k s hk ⟨i1, i2, i3⟩
    right
    have g : ¬ (64 : Int32) ≤ nI k := nI_ge (b := 64) hk (by decide)
    have c1 : (nI k).toNatClampNeg = k := nI_lt31 (by omega)
    have hs := t3.scr vb i1
    have s88 : s.1 88 = N.1 88 := by rw [i1.1 88 (by omega)]; exact o88
    have at' := t2.off h.1 vb i1
    have z : ¬ (1 : Int32) = 0 := by decide
    have no : mayS ch law (N.1 88) t cols hr k = false → (off1 v N1 (hn_wI s v k 0) ∧ (∀ j, j < k + 1 → (hn_wI s v k 0).1 v j = if mayS ch law (N.1 88) t cols hr j then N.1 v j else 0) ∧ ∀ j, k + 1 ≤ j → (hn_wI s v k 0).1 v j = N.1 v j) := by
      intro hm
      refine ⟨i1.trans off1.w, ?_, ?_⟩
      · intro j hj
        by_cases e : j = k
        · subst e; rw [wI_s, hm]; rfl
        · rw [wI_n e]; exact i2 j (by omega)
      · intro j hj; rw [wI_n (by omega)]; exact i3 j (by omega)
    by_cases q1 : onP ch k = true
    · have co := ps_colourOn hs hk at' (x := lit) (by rw [s88]; exact hl)
      rw [s88] at co
      by_cases q2 : colS ch law (N.1 88) (t + hr) (nI k) = hcS cols hr
      · refine ⟨s, ⟨i1, ?_, fun j hj => i3 j (by omega)⟩, ?_⟩
        · intro j hj
          by_cases e : j = k
          · subst e
            have : mayS ch law (N.1 88) t cols hr j = true := by unfold mayS; simp [q1, q2]
            rw [this, if_pos rfl]; exact i3 j (Nat.le_refl _)
          · exact i2 j (by omega)
        · simp only [B_Walk_keepColoured_1, g, ↓reduceIte, div8 hk, mod8 hk, ps_onP hs hk, q1, hbN_e, z, co, q2, ← nI_succ]
      · refine ⟨hn_wI s v k 0, no (by unfold mayS; simp [q2]), ?_⟩
        simp only [B_Walk_keepColoured_1, B_Walk_keepColoured_2, g, ↓reduceIte, div8 hk, mod8 hk, ps_onP hs hk, q1, hbN_e, z, co, q2, ib5 hv hk, hg_T, c1, hl_e, ← nI_succ]
    · have q1' : onP ch k = false := by simpa using q1
      refine ⟨hn_wI s v k 0, no (by unfold mayS; simp [q1']), ?_⟩
      simp only [B_Walk_keepColoured_1, B_Walk_keepColoured_2, g, ↓reduceIte, div8 hk, mod8 hk, ps_onP hs hk, q1', Bool.false_eq_true, hbN_e, ib5 hv hk, hg_T, c1, hl_e, ← nI_succ]
theorem around_ok {c v k : Nat} (hv : v = 56 ∨ v = 57) (hk : k < 64) {f : Nat → Nat} {N : hn} (hf : ∀ j, j < 64 → N.1 v j = nI (f j)) : F_Walk_waysAround c v (nI k) N = some (nI (arN f k), N) := by
  have c0 : (nI k).toNatClampNeg = k := nI_lt31 (by omega)
  have hkm : k % 8 < 8 := Nat.mod_lt _ (by decide)
  -- left
  have s1 : ∀ x : Nat, ∃ y, (if nI (k % 8) ≤ 0 then B_Walk_waysAround_1 c v (nI k) (0 : Int32) (nI x) N else hg (hm_ib S0 v .int (nI k - (1 : Int32)) = true) <| B_Walk_waysAround_1 c v (nI k) (N.1 v (nI k - (1 : Int32)).toNatClampNeg) (nI x) N) = B_Walk_waysAround_1 c v (nI k) (nI y) (nI x) N ∧ y = (if 0 < k % 8 then f (k - 1) else 0) := by
    intro x
    by_cases q : 0 < k % 8
    · have g : ¬ nI (k % 8) ≤ 0 := nI_nle q (by omega)
      have e : nI k - (1 : Int32) = nI (k - 1) := nI_s (b := 1) (by omega)
      refine ⟨f (k - 1), ?_, by rw [if_pos q]⟩
      simp only [g, ↓reduceIte, e, ib5 hv (show k - 1 < 64 by omega), hg_T, nI_lt31 (show k - 1 < 2147483648 by omega), hf (k - 1) (by omega)]
    · have g : nI (k % 8) ≤ 0 := by rw [show k % 8 = 0 by omega]; decide
      refine ⟨0, ?_, by rw [if_neg q]⟩
      simp only [g, ↓reduceIte]; rfl
  have s2 : ∀ x : Nat, ∃ y, (if (7 : Int32) ≤ nI (k % 8) then B_Walk_waysAround_2 c v (nI k) (0 : Int32) (nI x) N else hg (hm_ib S0 v .int (nI k + (1 : Int32)) = true) <| B_Walk_waysAround_2 c v (nI k) (N.1 v (nI k + (1 : Int32)).toNatClampNeg) (nI x) N) = B_Walk_waysAround_2 c v (nI k) (nI y) (nI x) N ∧ y = (if k % 8 < 7 then f (k + 1) else 0) := by
    intro x
    by_cases q : k % 8 < 7
    · have g : ¬ (7 : Int32) ≤ nI (k % 8) := nI_ge (b := 7) q (by decide)
      have e : nI k + (1 : Int32) = nI (k + 1) := (nI_succ k).symm
      refine ⟨f (k + 1), ?_, by rw [if_pos q]⟩
      simp only [g, ↓reduceIte, e, ib5 hv (show k + 1 < 64 by omega), hg_T, nI_lt31 (show k + 1 < 2147483648 by omega), hf (k + 1) (by omega)]
    · have g : (7 : Int32) ≤ nI (k % 8) := nI_le (a := 7) (by omega) (by omega)
      refine ⟨0, ?_, by rw [if_neg q]⟩
      simp only [g, ↓reduceIte]; rfl
  have s3 : ∀ x : Nat, ∃ y, (if nI k < (8 : Int32) then B_Walk_waysAround_3 c v (nI k) (0 : Int32) (nI x) N else hg (hm_ib S0 v .int (nI k - (8 : Int32)) = true) <| B_Walk_waysAround_3 c v (nI k) (N.1 v (nI k - (8 : Int32)).toNatClampNeg) (nI x) N) = B_Walk_waysAround_3 c v (nI k) (nI y) (nI x) N ∧ y = (if 8 ≤ k then f (k - 8) else 0) := by
    intro x
    by_cases q : 8 ≤ k
    · have g : ¬ nI k < (8 : Int32) := nI_nlt (b := 8) q (by omega)
      have e : nI k - (8 : Int32) = nI (k - 8) := nI_s (b := 8) q
      refine ⟨f (k - 8), ?_, by rw [if_pos q]⟩
      simp only [g, ↓reduceIte, e, ib5 hv (show k - 8 < 64 by omega), hg_T, nI_lt31 (show k - 8 < 2147483648 by omega), hf (k - 8) (by omega)]
    · have g : nI k < (8 : Int32) := nI_lt (b := 8) (by omega) (by decide)
      refine ⟨0, ?_, by rw [if_neg q]⟩
      simp only [g, ↓reduceIte]; rfl
  have s4 : ∀ x : Nat, (if (56 : Int32) ≤ nI k then B_Walk_waysAround_4 c (0 : Int32) (nI x) N else hg (hm_ib S0 v .int (nI k + (8 : Int32)) = true) <| B_Walk_waysAround_4 c (N.1 v (nI k + (8 : Int32)).toNatClampNeg) (nI x) N) = some (nI (x + (if k < 56 then f (k + 8) else 0)), N) := by
    intro x
    by_cases q : k < 56
    · have g : ¬ (56 : Int32) ≤ nI k := nI_ge (b := 56) q (by decide)
      have e : nI k + (8 : Int32) = nI (k + 8) := nI_a k 8
      simp only [g, ↓reduceIte, e, ib5 hv (show k + 8 < 64 by omega), hg_T, nI_lt31 (show k + 8 < 2147483648 by omega), hf (k + 8) (by omega), B_Walk_waysAround_4, hl_e, nI_a, q]
    · have g : (56 : Int32) ≤ nI k := nI_le (a := 56) (by omega) (by omega)
      simp only [g, ↓reduceIte, B_Walk_waysAround_4, hl_e, q, Int32.add_zero, Nat.add_zero]
  obtain ⟨y1, a1, b1⟩ := s1 (f k)
  obtain ⟨y2, a2, b2⟩ := s2 (f k + y1)
  obtain ⟨y3, a3, b3⟩ := s3 (f k + y1 + y2)
  have a4 := s4 (f k + y1 + y2 + y3)
  simp only [F_Walk_waysAround, ib5 hv hk, hg_T, c0, hl_e, div8 hk, mod8 hk, hf k hk]
  rw [a1]
  simp only [B_Walk_waysAround_1, hl_e, div8 hk, mod8 hk, nI_a]
  rw [a2]
  simp only [B_Walk_waysAround_2, hl_e, nI_a]
  rw [a3]
  simp only [B_Walk_waysAround_3, hl_e, nI_a]
  rw [a4, ar_five f hk, b1, b2, b3]
