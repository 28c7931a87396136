/-! BEST: the class settles who stands together -/
def L0 (P : Nat) : Nat → Bool := fun k => decide (k < P)
theorem choose_ok {c : Nat} {G : Nat → Nat → Nat} (hB : gB G) {P : Nat} (hP : P ≤ 12) {N : hn} (a0 : Nat → Nat)
    (h48 : ∀ a b, a < P → b < P → N.1 48 (a * 12 + b) = nI (G a b)) (h49 : ∀ m', m' < 2 ^ P → N.1 49 m' = nI (Vf G 12 (tb m'))) :
    ∃ N', F_Trade_choose c (nI P) N = some N' ∧ off1 50 N N' ∧ ∀ k, k < P → N'.1 50 k = nI (chS G P P 0 (L0 P) a0 k) := by
  have hpw := pw12 hP
  have hpos : 0 < 2 ^ P := Nat.two_pow_pos P
  have ex : ((1 : Int32) <<< (nI P &&& 31)) - (1 : Int32) = nI (2 ^ P - 1) := by rw [nI_1sh P (by omega), show (1 : Int32) = nI 1 from rfl, nI_s (by omega)]
  simp only [F_Trade_choose, ex, hl_e]
  refine it_wp (B := B_Trade_choose_1 c) (z := fun _ _ _ _ => none) (fun K p (s : Int32 × hn) => K (nI P) s.1 (nI p) s.2) P
    (fun p s => ∃ m, ∃ a : Nat → Nat, s.1 = nI m ∧ m < 2 ^ P ∧ (∀ k, tb m k = true → p ≤ k ∧ k < P) ∧ off1 50 N s.2 ∧ (∀ k, k < P → tb m k = false → s.2.1 50 k = nI (a k)) ∧ chS G P (P - p) p (tb m) a = chS G P P 0 (L0 P) a0)
    (Q := fun x => ∃ N', x = some N' ∧ off1 50 N N' ∧ ∀ k, k < P → N'.1 50 k = nI (chS G P P 0 (L0 P) a0 k)) ?_ ?_ (n := hN) (k := 0) (s := (nI (2 ^ P - 1), N)) (by omega) (hN_big (by omega)) ?_
  · rintro K ⟨x, s⟩ ⟨m, a, i1, i2, i3, i4, i5, i6⟩
    dsimp only at i1 i4 i5 ⊢
    have g : nI P ≤ nI P := (nI_lei (by omega) (by omega)).mpr (Nat.le_refl _)
    refine ⟨s, by simp only [B_Trade_choose_1, g, ↓reduceIte], i4, ?_⟩
    intro k hk
    rw [← i6, Nat.sub_self, chS]
    apply i5 k hk
    by_cases q : tb m k = true
    · have := i3 k q; omega
    · simpa using q
  · rintro K p ⟨x, s⟩ hp ⟨m, a, i1, i2, i3, i4, i5, i6⟩
    dsimp only at i1 i4 i5 ⊢
    subst i1
    right
    have g : ¬ nI P ≤ nI p := fun q => by have := (nI_lei (by omega) (by omega)).mp q; omega
    have x0 : hn_ix 4096 (nI m) = true := ix_ok (by omega) (by decide)
    have c0 : (nI m).toNatClampNeg = m := nI_lt31 (by omega)
    have bp : bt (nI m) p = tb m p := bt_nat (by omega)
    have es : P - p = (P - (p + 1)) + 1 := by omega
    rw [es, chS] at i6
    by_cases q : tb m p = true
    · rw [if_pos q] at i6
      obtain ⟨m1, d1, d2, d3⟩ := mk_del hP i2 (show p < 12 by omega)
      have s48 : ∀ a b, a < P → b < P → s.1 48 (a * 12 + b) = nI (G a b) := fun a b ha hb => by rw [i4.1 48 (by decide)]; exact h48 a b ha hb
      have s49 : ∀ m', m' < 2 ^ P → s.1 49 m' = nI (Vf G 12 (tb m')) := fun m' hm' => by rw [i4.1 49 (by decide)]; exact h49 m' hm'
      have lp := leastPartner_ok (c := c) (m := m) hB hP hp q i3 d1 d3 s48 s49
      obtain ⟨a1, a2, a3, -⟩ := mxP_ok (G := G) (L := tb m) (p := p) (P - 1 - p)
      change p ≤ ptG G (tb m) p P at a2
      change ptG G (tb m) p P ≤ _ at a3
      generalize ptG G (tb m) p P = t at a1 a2 a3 i6 lp
      obtain ⟨m2, f1, f2, f3⟩ := mk_del hP d1 (show t < 12 by omega)
      have x1 : hn_ix 12 (nI p) = true := ix_ok (by omega) (by decide)
      have c1 : (nI p).toNatClampNeg = p := nI_lt31 (by omega)
      have x2 : hn_ix 12 (nI t) = true := ix_ok (by omega) (by decide)
      have c2 : (nI t).toNatClampNeg = t := nI_lt31 (by omega)
      have em : tb m2 = del (del (tb m) p) t := by rw [f3, d3]
      refine ⟨(nI m2, hn_wI (hn_wI s 50 p (nI t)) 50 t (nI p)), ⟨m2, fun k => if k = t then p else if k = p then t else a k, rfl, f1, ?_, (i4.trans off1.w).trans off1.w, ?_, by rw [em]; exact i6⟩, ?_⟩
      · intro k hk
        rw [em] at hk
        unfold del at hk
        simp only [Bool.and_eq_true, Bool.not_eq_true', decide_eq_false_iff_not] at hk
        have := i3 k hk.1.1
        omega
      · intro k hk hf
        rw [em] at hf
        dsimp only
        by_cases q1 : k = t
        · subst q1; rw [if_pos rfl, wI_s]
        · rw [if_neg q1, wI_n q1]
          by_cases q2 : k = p
          · subst q2; rw [if_pos rfl, wI_s]
          · rw [if_neg q2, wI_n q2]
            rw [del_ne q1, del_ne q2] at hf
            exact i5 k hk hf
      · simp only [B_Trade_choose_1, g, ↓reduceIte, bt_sh (show p < 32 by omega), bp, q, d2, hl_e, x0, hg_T, c0, s49 m i2, lp, hbN_e, x1, c1, x2, c2, f2, ← nI_succ]
    · rw [if_neg q] at i6
      refine ⟨(nI m, s), ⟨m, a, rfl, i2, ?_, i4, i5, i6⟩, ?_⟩
      · intro k hk
        have := i3 k hk
        have : k ≠ p := fun e => q (by rw [← e]; exact hk)
        omega
      · simp only [B_Trade_choose_1, g, ↓reduceIte, bt_sh (show p < 32 by omega), bp, q, Bool.false_eq_true, ← nI_succ]
  · refine ⟨2 ^ P - 1, a0, rfl, by omega, ?_, off1.refl, ?_, ?_⟩
    · intro k hk
      unfold tb at hk
      rw [Nat.testBit_two_pow_sub_one] at hk
      have := of_decide_eq_true hk
      omega
    · intro k hk hf
      unfold tb at hf
      rw [Nat.testBit_two_pow_sub_one] at hf
      exact absurd hk (of_decide_eq_false hf)
    · rw [Nat.sub_zero, show tb (2 ^ P - 1) = L0 P from funext fun k => Nat.testBit_two_pow_sub_one P k]
/-- the table for one pane more -/
theorem settle_6 {c : Nat} {G : Nat → Nat → Nat} (hB : gB G) {P j : Nat} (hP : P ≤ 12) (hj : j < P) {N : hn} (k111 : Int32 → Int32 → hn → Option hn)
    (h48 : ∀ a b, a < P → b < P → N.1 48 (a * 12 + b) = nI (G a b)) (h49 : ∀ m', m' < 2 ^ j → N.1 49 m' = nI (Vf G 12 (tb m'))) :
    ∃ N', F_Trade_settle_6 c k111 hN (nI P) (nI j) (0 : Int32) N = k111 (nI P) (nI (j + 1)) N' ∧ off1 49 N N' ∧ ∀ m', m' < 2 ^ (j + 1) → N'.1 49 m' = nI (Vf G 12 (tb m')) := by
  have hpw := pw12 (show j + 1 ≤ 12 by omega)
  have e2 : 2 ^ (j + 1) = 2 ^ j + 2 ^ j := by rw [Nat.pow_succ]; omega
  have esh : (1 : Int32) <<< (nI j &&& 31) = nI (2 ^ j) := nI_1sh j (by omega)
  refine it_wp (B := B_Trade_settle_6 c k111) (z := fun _ _ _ _ => none) (fun K m (s : hn) => K (nI P) (nI j) (nI m) s) (2 ^ j)
    (fun m s => off1 49 N s ∧ ∀ m', m' < 2 ^ j + m → s.1 49 m' = nI (Vf G 12 (tb m')))
    (Q := fun x => ∃ N', x = k111 (nI P) (nI (j + 1)) N' ∧ off1 49 N N' ∧ ∀ m', m' < 2 ^ (j + 1) → N'.1 49 m' = nI (Vf G 12 (tb m'))) ?_ ?_ (n := hN) (k := 0) (s := N) (Nat.zero_le _) (hN_big (by omega)) ⟨off1.refl, fun m' h => h49 m' h⟩
  · rintro K s ⟨i1, i2⟩
    have g : nI (2 ^ j) ≤ nI (2 ^ j) := (nI_lei (by omega) (by omega)).mpr (Nat.le_refl _)
    refine ⟨s, by simp only [B_Trade_settle_6, esh, g, ↓reduceIte, ← nI_succ], i1, fun m' h => i2 m' (by omega)⟩
  · rintro K m s hm ⟨i1, i2⟩
    right
    have g : ¬ nI (2 ^ j) ≤ nI m := fun q => by have := (nI_lei (by omega) (by omega)).mp q; omega
    have eo : nI m ||| nI (2 ^ j) = nI (2 ^ j + m) := by
      have := fa_or_sum 1 hm
      rw [Nat.mul_one] at this
      rw [← this, fa_or, fa_or, Nat.or_comm]
    have x1 : hn_ix 4096 (nI (2 ^ j + m)) = true := ix_ok (by omega) (by decide)
    have c1 : (nI (2 ^ j + m)).toNatClampNeg = 2 ^ j + m := nI_lt31 (by omega)
    have mw := mostWith_ok (c := c) hB (show j < 12 by omega) hm (N := s) (fun p hp => by rw [i1.1 48 (by decide)]; exact h48 j p hj (by omega)) (fun m' hm' => i2 m' (by omega))
    refine ⟨hn_wI s 49 (2 ^ j + m) (nI (Vf G 12 (tb (2 ^ j + m)))), ⟨i1.trans off1.w, ?_⟩, by simp only [B_Trade_settle_6, esh, g, ↓reduceIte, mw, hbN_e, eo, x1, hg_T, c1, hl_e, ← nI_succ]⟩
    intro m' hm'
    by_cases q : m' = 2 ^ j + m
    · subst q; rw [wI_s]
    · rw [wI_n q]; exact i2 m' (by omega)
/-- the table, and the choice out of it -/
theorem settle_5 {c : Nat} {G : Nat → Nat → Nat} (hB : gB G) {P : Nat} (hP : P ≤ 12) {N : hn} (a0 : Nat → Nat)
    (h48 : ∀ a b, a < P → b < P → N.1 48 (a * 12 + b) = nI (G a b)) (h49 : N.1 49 0 = 0) :
    ∃ N', F_Trade_settle_5 c hN (nI P) (0 : Int32) N = some N' ∧ (∀ b, b ≠ 47 → b ≠ 49 → b ≠ 50 → N'.1 b = N.1 b) ∧ N'.2 = N.2 ∧ N'.1 47 3 = nI (Vf G 12 (L0 P)) ∧ ∀ k, k < P → N'.1 50 k = nI (chS G P P 0 (L0 P) a0 k) := by
  have hpw := pw12 hP
  have hpos : 0 < 2 ^ P := Nat.two_pow_pos P
  refine it_wp (B := B_Trade_settle_5 c) (z := fun _ _ _ => none) (fun K j (s : hn) => K (nI P) (nI j) s) P
    (fun j s => off1 49 N s ∧ ∀ m', m' < 2 ^ j → s.1 49 m' = nI (Vf G 12 (tb m')))
    (Q := fun x => ∃ N', x = some N' ∧ (∀ b, b ≠ 47 → b ≠ 49 → b ≠ 50 → N'.1 b = N.1 b) ∧ N'.2 = N.2 ∧ N'.1 47 3 = nI (Vf G 12 (L0 P)) ∧ ∀ k, k < P → N'.1 50 k = nI (chS G P P 0 (L0 P) a0 k)) ?_ ?_ (n := hN) (k := 0) (s := N) (by omega) (hN_big (by omega)) ⟨off1.refl, fun m' hm' => ?_⟩
  · rintro K s ⟨i1, i2⟩
    have g : nI P ≤ nI P := (nI_lei (by omega) (by omega)).mpr (Nat.le_refl _)
    have ex : ((1 : Int32) <<< (nI P &&& 31)) - (1 : Int32) = nI (2 ^ P - 1) := by rw [nI_1sh P (by omega), show (1 : Int32) = nI 1 from rfl, nI_s (by omega)]
    have x1 : hn_ix 4096 (nI (2 ^ P - 1)) = true := ix_ok (by omega) (by decide)
    have c1 : (nI (2 ^ P - 1)).toNatClampNeg = 2 ^ P - 1 := nI_lt31 (by omega)
    have eL : tb (2 ^ P - 1) = L0 P := funext fun k => Nat.testBit_two_pow_sub_one P k
    obtain ⟨N', d1, d2, d3⟩ := choose_ok (c := c) hB hP (N := hn_wI s 47 3 (nI (Vf G 12 (L0 P)))) a0 (fun a b ha hb => by rw [wI_o (by decide), i1.1 48 (by decide)]; exact h48 a b ha hb) (fun m' hm' => by rw [wI_o (by decide)]; exact i2 m' hm')
    refine ⟨N', ?_, ?_, ?_, ?_, d3⟩
    · simp only [B_Trade_settle_5, g, ↓reduceIte, ex, x1, hg_T, c1, i2 (2 ^ P - 1) (by omega), eL, hl_e, d1, hvN_e]
    · intro b h1 h2 h3
      rw [d2.1 b h3, wI_o h1, i1.1 b h2]
    · rw [d2.2, wI_2, i1.2]
    · rw [d2.1 47 (by decide), wI_s]
  · rintro K j s hj ⟨i1, i2⟩
    right
    have g : ¬ nI P ≤ nI j := fun q => by have := (nI_lei (by omega) (by omega)).mp q; omega
    obtain ⟨N', d1, d2, d3⟩ := settle_6 (c := c) hB hP hj (N := s) K (fun a b ha hb => by rw [i1.1 48 (by decide)]; exact h48 a b ha hb) i2
    exact ⟨N', ⟨i1.trans d2, d3⟩, by simp only [B_Trade_settle_5, g, ↓reduceIte, d1]⟩
  · have e0 : m' = 0 := by
      have : (2 : Nat) ^ 0 = 1 := rfl
      omega
    subst e0
    have : Vf G 12 (tb 0) = 0 := by
      rw [Vf_up (j := 0) 12 (by omega) (fun k _ _ => by simp [tb])]; rfl
    rw [this]; exact h49
