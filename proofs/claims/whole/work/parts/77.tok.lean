/-! CHAPEL: a token, as both sides see it -/
theorem lN_inj {a b : Nat} (ha : a < 9223372036854775808) (hb : b < 9223372036854775808) : lN a = lN b ↔ a = b := by
  constructor
  · intro h
    have h1 := congrArg Int64.toInt h
    rw [lN_ti (by omega), lN_ti (by omega), if_pos (by omega), if_pos (by omega)] at h1
    omega
  · intro h; rw [h]
theorem run_L {t : Nat → Nat} {n p : Nat} (hl : cL (t p) = true) : ∀ i, i < tE t n p - p → cL (t (p + i)) = true := by
  intro i hi
  have eT : tE t n p = rE cL t (n - p) p := by unfold tE; rw [if_pos hl]
  exact rE_in (f := cL) (t := t) (n - p) p (p + i) (by omega) (by omega)
theorem run_D {t : Nat → Nat} {n p : Nat} (hl : cL (t p) = false) (hd : cD (t p) = true) : ∀ i, i < tE t n p - p → cD (t (p + i)) = true := by
  intro i hi
  have eT : tE t n p = rE cD t (n - p) p := by unfold tE; rw [if_neg (by rw [hl]; decide), if_pos hd]
  exact rE_in (f := cD) (t := t) (n - p) p (p + i) (by omega) (by omega)
theorem cS_in {m : Nat} (h : cS m = true) : m = 40 ∨ m = 41 ∨ m = 59 ∨ m = 61 ∨ m = 60 ∨ m = 43 ∨ m = 45 ∨ m = 42 := by
  simp only [cS, Bool.or_eq_true, decide_eq_true_eq] at h; omega
/-- the kinds: the end, a number, a sign, a word, nothing -/
theorem tok_or (t : Nat → Nat) (n p : Nat) (ht : p < n → t p < 128) :
    (n ≤ p ∧ kd t n p = 1 ∧ so t n p = 0) ∨ (p < n ∧ kd t n p = 2 ∧ so t n p = 2 ∧ va t n p = nv t p (tE t n p - p) ∧ va t n p < 10000) ∨
    (p < n ∧ cS (t p) = true ∧ kd t n p = t p ∧ so t n p = 3 ∧ va t n p = t p) ∨
    (p < n ∧ 128 ≤ kd t n p ∧ kd t n p ≤ 150 ∧ so t n p = 1 ∧ va t n p = wv 37 t p (tE t n p - p) ∧ tE t n p - p ≤ 8 ∧ kd t n p = kw t p (tE t n p - p) ∧ cL (t p) = true) ∨
    (p < n ∧ kd t n p = 0 ∧ so t n p = 4) := by
  by_cases h : n ≤ p
  · left; exact ⟨h, by unfold kd; rw [if_pos h], by unfold so; rw [if_pos h]⟩
  · right
    have hp : p < n := by omega
    by_cases qL : cL (t p) = true
    · by_cases q8 : tE t n p - p ≤ 8
      · right; right; left
        have kE : kd t n p = kw t p (tE t n p - p) := by unfold kd; rw [if_neg h, if_pos qL, if_pos q8]
        have kb := kw_b t p (tE t n p - p)
        refine ⟨hp, by omega, by omega, by unfold so; rw [if_neg h, if_pos qL, if_pos q8], ?_, q8, kE, qL⟩
        unfold va; rw [if_pos qL, Nat.min_eq_left q8]
      · right; right; right
        exact ⟨hp, by unfold kd; rw [if_neg h, if_pos qL, if_neg q8], by unfold so; rw [if_neg h, if_pos qL, if_neg q8]⟩
    · have qL' : cL (t p) = false := by simpa using qL
      by_cases qD : cD (t p) = true
      · by_cases q4 : tE t n p - p ≤ 4
        · left
          have vE : va t n p = nv t p (tE t n p - p) := by unfold va; rw [if_neg qL, if_pos qD, Nat.min_eq_left q4]
          refine ⟨hp, by unfold kd; rw [if_neg h, if_neg qL, if_pos qD, if_pos q4], by unfold so; rw [if_neg h, if_neg qL, if_pos qD, if_pos q4], vE, ?_⟩
          rw [vE]
          have a := nv_lt (t := t) (p := p) (tE t n p - p) (run_D qL' qD)
          have b : (10 : Nat) ^ (tE t n p - p) ≤ 10 ^ 4 := Nat.pow_le_pow_right (by decide) q4
          omega
        · right; right; right
          exact ⟨hp, by unfold kd; rw [if_neg h, if_neg qL, if_pos qD, if_neg q4], by unfold so; rw [if_neg h, if_neg qL, if_pos qD, if_neg q4]⟩
      · by_cases qS : cS (t p) = true
        · right; left
          exact ⟨hp, qS, by unfold kd; rw [if_neg h, if_neg qL, if_neg qD, if_pos qS], by unfold so; rw [if_neg h, if_neg qL, if_neg qD, if_pos qS], by unfold va; rw [if_neg qL, if_neg qD]⟩
        · right; right; right
          exact ⟨hp, by unfold kd; rw [if_neg h, if_neg qL, if_neg qD, if_neg qS], by unfold so; rw [if_neg h, if_neg qL, if_neg qD, if_neg qS]⟩
theorem wv37_8 {t : Nat → Nat} {n p : Nat} (hl : cL (t p) = true) (h8 : tE t n p - p ≤ 8) : wv 37 t p (tE t n p - p) < 9223372036854775808 := by
  have a := wv_lt (B := 37) (by decide) (t := t) (p := p) (tE t n p - p) (run_L hl)
  have b : (37 : Nat) ^ (tE t n p - p) ≤ 37 ^ 8 := Nat.pow_le_pow_right (by decide) h8
  have d : (37 : Nat) ^ 8 = 3512479453921 := by decide
  omega
theorem wv32_8 {t : Nat → Nat} {n p : Nat} (hl : cL (t p) = true) (h8 : tE t n p - p ≤ 8) : wv 32 t p (tE t n p - p) < 9223372036854775808 := by
  have a := wv_lt (B := 32) (by decide) (t := t) (p := p) (tE t n p - p) (run_L hl)
  have b : (32 : Nat) ^ (tE t n p - p) ≤ 32 ^ 8 := Nat.pow_le_pow_right (by decide) h8
  have d : (32 : Nat) ^ 8 = 1099511627776 := by decide
  omega
theorem wordS_lt : ∀ k, k < 22 → wordS k < 9223372036854775808 := by decide
/-- a word told of -/
theorem tok_word {t : Nat → Nat} {n p k : Nat} (ht : p < n → t p < 128) (hk : k < 22) : (so t n p = 1 ∧ lN (va t n p) = lN (wordS k)) ↔ kd t n p = 128 + k := by
  rcases tok_or t n p ht with h | h | h | h | h
  · obtain ⟨-, h1, h2⟩ := h; rw [h1, h2]; omega
  · obtain ⟨-, h1, h2, -⟩ := h; rw [h1, h2]; omega
  · obtain ⟨a, h0, h1, h2, h3⟩ := h; have := ht a; rw [h1, h2]; omega
  · obtain ⟨-, h1, h2, h3, h4, h5, h6, h7⟩ := h
    rw [h3, h4, lN_inj (wv37_8 h7 h5) (wordS_lt k hk), ← isW_v hk (run_L h7), ← kw_i hk, h6]
    simp
  · obtain ⟨-, h1, h2⟩ := h; rw [h1, h2]; omega
theorem tok_sign {t : Nat → Nat} {n p m : Nat} (ht : p < n → t p < 128) (hm : cS m = true) : (so t n p = 3 ∧ lN (va t n p) = lN m) ↔ kd t n p = m := by
  have hm' := cS_in hm
  rcases tok_or t n p ht with h | h | h | h | h
  · obtain ⟨-, h1, h2⟩ := h; rw [h1, h2]; omega
  · obtain ⟨-, h1, h2, -⟩ := h; rw [h1, h2]; omega
  · obtain ⟨a, h0, h1, h2, h3⟩ := h; have := ht a; rw [h1, h2, h3, lN_inj (by omega) (by omega)]; omega
  · obtain ⟨-, h1, h2, h3, -⟩ := h; rw [h3]; omega
  · obtain ⟨-, h1, h2⟩ := h; rw [h1, h2]; omega
theorem tok_num {t : Nat → Nat} {n p : Nat} (ht : p < n → t p < 128) : so t n p = 2 ↔ kd t n p = 2 := by
  rcases tok_or t n p ht with h | h | h | h | h
  · obtain ⟨-, h1, h2⟩ := h; rw [h1, h2]; omega
  · obtain ⟨-, h1, h2, -⟩ := h; rw [h1, h2]
  · obtain ⟨a, h0, h1, h2, h3⟩ := h; have := cS_in h0; rw [h1, h2]; omega
  · obtain ⟨-, h1, h2, h3, -⟩ := h; rw [h3]; omega
  · obtain ⟨-, h1, h2⟩ := h; rw [h1, h2]; omega
theorem tok_end {t : Nat → Nat} {n p : Nat} (ht : p < n → t p < 128) : so t n p = 0 ↔ kd t n p = 1 := by
  rcases tok_or t n p ht with h | h | h | h | h
  · obtain ⟨-, h1, h2⟩ := h; rw [h1, h2]; omega
  · obtain ⟨-, h1, h2, -⟩ := h; rw [h1, h2]; omega
  · obtain ⟨a, h0, h1, h2, h3⟩ := h; have := cS_in h0; rw [h1, h2]; omega
  · obtain ⟨-, h1, h2, h3, -⟩ := h; rw [h3]; omega
  · obtain ⟨-, h1, h2⟩ := h; rw [h1, h2]; omega
theorem tok_lt {t : Nat → Nat} {n p : Nat} : kd t n p ≠ 1 → p < n := by
  intro h
  rcases Nat.lt_or_ge p n with q | q
  · exact q
  · exfalso; apply h; unfold kd; rw [if_pos q]
theorem tok_kd {t : Nat → Nat} {n p : Nat} (ht : p < n → t p < 128) : kd t n p ≤ 150 := by
  rcases tok_or t n p ht with h | h | h | h | h
  · obtain ⟨-, h1, h2⟩ := h; omega
  · obtain ⟨-, h1, h2, -⟩ := h; omega
  · obtain ⟨a, h0, h1, h2, h3⟩ := h; have := cS_in h0; omega
  · obtain ⟨-, h1, h2, h3, -⟩ := h; omega
  · obtain ⟨-, h1, h2⟩ := h; omega
/-- two words are one -/
theorem tok_same {t : Nat → Nat} {n p q : Nat} (hp : p < n → t p < 128) (hq : q < n → t q < 128) (kp : 128 ≤ kd t n p) (kq : 128 ≤ kd t n q) :
    lN (wv 32 t p (tE t n p - p)) = lN (wv 32 t q (tE t n q - q)) ↔ lN (va t n p) = lN (va t n q) := by
  have wd : ∀ x, (x < n → t x < 128) → 128 ≤ kd t n x → va t n x = wv 37 t x (tE t n x - x) ∧ tE t n x - x ≤ 8 ∧ cL (t x) = true := by
    intro x hx kx
    rcases tok_or t n x hx with h | h | h | h | h
    · obtain ⟨-, h1, h2⟩ := h; omega
    · obtain ⟨-, h1, h2, -⟩ := h; omega
    · obtain ⟨a, h0, h1, h2, h3⟩ := h; have := cS_in h0; omega
    · obtain ⟨-, h1, h2, h3, h4, h5, h6, h7⟩ := h; exact ⟨h4, h5, h7⟩
    · obtain ⟨-, h1, h2⟩ := h; omega
  obtain ⟨a1, a2, a3⟩ := wd p hp kp
  obtain ⟨b1, b2, b3⟩ := wd q hq kq
  rw [a1, b1, lN_inj (wv32_8 a3 a2) (wv32_8 b3 b2), lN_inj (wv37_8 a3 a2) (wv37_8 b3 b2)]
  constructor
  · intro h
    obtain ⟨e1, e2⟩ := wv_inj (by decide) _ _ (run_L a3) (run_L b3) h
    rw [← e1]; exact wv_cong _ e2
  · intro h
    obtain ⟨e1, e2⟩ := wv_inj (by decide) _ _ (run_L a3) (run_L b3) h
    rw [← e1]; exact wv_cong _ e2
theorem tok_wd {t : Nat → Nat} {n p : Nat} (ht : p < n → t p < 128) : so t n p = 1 ↔ 128 ≤ kd t n p := by
  rcases tok_or t n p ht with h | h | h | h | h
  · obtain ⟨-, h1, h2⟩ := h; rw [h1, h2]; omega
  · obtain ⟨-, h1, h2, -⟩ := h; rw [h1, h2]; omega
  · obtain ⟨a, h0, h1, h2, h3⟩ := h; have := cS_in h0; rw [h1, h2]; omega
  · obtain ⟨-, h1, h2, h3, -⟩ := h; rw [h3]; omega
  · obtain ⟨-, h1, h2⟩ := h; rw [h1, h2]; omega
theorem tok_so {t : Nat → Nat} {n p : Nat} : so t n p ≤ 4 := by
  unfold so; split
  · omega
  · split
    · split <;> omega
    · split
      · split <;> omega
      · split <;> omega
