/-! BEST: the class's gains, and what it settles -/
theorem RR.tr {c : Nat} {ch : Nat → Int32} {law : Law} {N N' : hn} (h : RR c ch law N) (ho : ∀ b, ¬ (47 ≤ b ∧ b ≤ 50) → N'.1 b = N.1 b) (h2 : N'.2 = N.2) : RR c ch law N' := by
  obtain ⟨a1, -, -, ⟨-, a5, a6⟩, -⟩ := id h
  have hcc : c = 5 ∨ c = 20 := a1
  refine h.qP ⟨fun b hb => ho b (by omega), fun b _ _ => by rw [h2]⟩ ⟨?_, ?_⟩ (a6.off (ho 43 (by decide)) (ho 44 (by decide)) (ho 45 (by decide)))
  · unfold yrP; rw [h2]; exact a5.1
  · unfold atT; rw [ho 19 (by decide), ho 34 (by decide), ho (c + 13) (by omega)]; exact a5.2
theorem gG_B {ch : Nat → Int32} {law : Law} {st : Nat → Int32} : gB (gG ch law st) := ⟨gG_sym, gG_le, fun n S h => gV_le n S h⟩
theorem settle_2 {c : Nat} {ch : Nat → Int32} {law : Law} {N : hn} (h : RR c ch law N) {y a : Nat} (hy : y < 17) (ha : a < nP ch) (hY : ∀ q, q < 12 → N.1 44 (y * 12 + q) = Yd ch law (N.1 88) q) (k14 : Nat → Nat → Int32 → Int32 → Int32 → hn → Option hn) :
    ∃ N', F_Trade_settle_2 c k14 hN c 36 (nI y) (nI (nP ch)) (nI a) (0 : Int32) N = k14 c 36 (nI y) (nI (nP ch)) (nI (a + 1)) N' ∧ off1 48 N N' ∧ (∀ b, b < nP ch → N'.1 48 (a * 12 + b) = nI (gG ch law (N.1 88) a b)) ∧ ∀ k, (k < a * 12 ∨ a * 12 + 12 ≤ k) → N'.1 48 k = N.1 48 k := by
  have hP := h.P.1
  have hG6 := h.P.2.1
  refine it_wp (B := B_Trade_settle_2 c k14) (z := fun _ _ _ _ _ _ _ => none) (fun K b (s : hn) => K c 36 (nI y) (nI (nP ch)) (nI a) (nI b) s) (nP ch)
    (fun b s => off1 48 N s ∧ (∀ b', b' < b → s.1 48 (a * 12 + b') = nI (gG ch law (N.1 88) a b')) ∧ ∀ k, (k < a * 12 ∨ a * 12 + 12 ≤ k) → s.1 48 k = N.1 48 k)
    (Q := fun x => ∃ N', x = k14 c 36 (nI y) (nI (nP ch)) (nI (a + 1)) N' ∧ off1 48 N N' ∧ (∀ b, b < nP ch → N'.1 48 (a * 12 + b) = nI (gG ch law (N.1 88) a b)) ∧ ∀ k, (k < a * 12 ∨ a * 12 + 12 ≤ k) → N'.1 48 k = N.1 48 k) ?_ ?_ (n := hN) (k := 0) (s := N) (Nat.zero_le _) (hN_big (by omega)) ⟨off1.refl, fun b' hb' => absurd hb' (Nat.not_lt_zero b'), fun _ _ => rfl⟩
  · rintro K s ⟨i1, i2, i3⟩
    have g : nI (nP ch) ≤ nI (nP ch) := (nI_lei (by omega) (by omega)).mpr (Nat.le_refl _)
    exact ⟨s, by simp only [B_Trade_settle_2, g, ↓reduceIte, ← nI_succ], i1, i2, i3⟩
  · rintro K b s hb ⟨i1, i2, i3⟩
    right
    have g : ¬ nI (nP ch) ≤ nI b := fun q => by have := (nI_lei (by omega) (by omega)).mp q; omega
    have x1 : hn_ix 12 (nI a) = true := ix_ok (by omega) (by decide)
    have c1 : (nI a).toNatClampNeg = a := nI_lt31 (by omega)
    have x2 : hn_ix 12 (nI b) = true := ix_ok (by omega) (by decide)
    have c2 : (nI b).toNatClampNeg = b := nI_lt31 (by omega)
    have e1 : (nI a * (12 : Int32)) + nI b = nI (a * 12 + b) := by rw [show (12 : Int32) = nI 12 from rfl, nI_m, nI_a]
    have x3 : hn_ix 144 (nI (a * 12 + b)) = true := ix_ok (by omega) (by decide)
    have c3 : (nI (a * 12 + b)).toNatClampNeg = a * 12 + b := nI_lt31 (by omega)
    have hs : RR c ch law s := h.tr (fun b hb => i1.1 b (by omega)) i1.2
    have o88 : s.1 88 = N.1 88 := i1.1 88 (by decide)
    have o44 : s.1 44 = N.1 44 := i1.1 44 (by decide)
    obtain ⟨-, -, b3, -, -⟩ := hs.hold
    obtain ⟨oa, ho1, ea⟩ := h.own a ha
    obtain ⟨ob, ho2, eb⟩ := h.own b hb
    refine ⟨hn_wI s 48 (a * 12 + b) (nI (gG ch law (N.1 88) a b)), ⟨i1.trans off1.w, ?_, ?_⟩, ?_⟩
    · intro b' hb'
      by_cases q : b' = b
      · subst q; rw [wI_s]
      · rw [wI_n (by omega)]; exact i2 b' (by omega)
    · intro k hk
      rw [wI_n (by omega)]; exact i3 k hk
    · by_cases q : N.1 88 a = N.1 88 b
      · have eg : gG ch law (N.1 88) a b = 0 := by unfold gG; rw [if_pos q]
        have z : ¬ (1 : Int32) = 0 := by decide
        have z0 : nI 0 = (0 : Int32) := rfl
        rw [eg]
        simp only [B_Trade_settle_2, B_Trade_settle_3, B_Trade_settle_4, g, ↓reduceIte, x1, x2, hg_T, c1, c2, (b3 a ha).1, (b3 b hb).1, o88, q, z, e1, x3, c3, hl_e, z0, ← nI_succ]
      · have gp := gai_ps hs hy ha hb ho1 ho2 (by rw [o88]; exact ea) (by rw [o88]; exact eb) (Y := Yd ch law (N.1 88)) (fun q hq => by rw [o44]; exact hY q hq)
        rw [gG_nI (show oa < 6 by omega) (show ob < 6 by omega) ea eb q] at gp
        simp only [B_Trade_settle_2, B_Trade_settle_3, B_Trade_settle_4, g, ↓reduceIte, x1, x2, hg_T, c1, c2, (b3 a ha).1, (b3 b hb).1, o88, q, e1, x3, c3, hl_e, gp, hbN_e, ← nI_succ]
theorem settle_ok {c : Nat} {ch : Nat → Int32} {law : Law} {N : hn} (h : RR c ch law N) {y : Nat} (hy : y < 17) (hY : ∀ q, q < 12 → N.1 44 (y * 12 + q) = Yd ch law (N.1 88) q) (a0 : Nat → Nat) :
    ∃ N', F_Trade_settle c c 36 (nI y) N = some N' ∧ RR c ch law N' ∧ N'.1 88 = N.1 88 ∧ N'.1 47 3 = nI (Vf (gG ch law (N.1 88)) 12 (L0 (nP ch))) ∧ ∀ k, k < nP ch → N'.1 50 k = nI (chS (gG ch law (N.1 88)) (nP ch) (nP ch) 0 (L0 (nP ch)) a0 k) := by
  obtain ⟨hP, -, -, -, -, -, p4, -⟩ := h.P
  have em : hm_min (nI (nP ch)) (12 : Int32) = nI (nP ch) := by
    unfold hm_min
    by_cases q : (12 : Int32) < nI (nP ch)
    · have := (nI_lti (a := 12) (by decide) (by omega)).mp q; omega
    · rw [if_neg q]
  simp only [F_Trade_settle, p4, em, hl_e]
  refine it_wp (B := B_Trade_settle_1 c) (z := fun _ _ _ _ _ _ => none) (fun K a (s : hn) => K c 36 (nI y) (nI (nP ch)) (nI a) s) (nP ch)
    (fun a s => off1 48 N s ∧ ∀ a' b, a' < a → b < nP ch → s.1 48 (a' * 12 + b) = nI (gG ch law (N.1 88) a' b))
    (Q := fun x => ∃ N', x = some N' ∧ RR c ch law N' ∧ N'.1 88 = N.1 88 ∧ N'.1 47 3 = nI (Vf (gG ch law (N.1 88)) 12 (L0 (nP ch))) ∧ ∀ k, k < nP ch → N'.1 50 k = nI (chS (gG ch law (N.1 88)) (nP ch) (nP ch) 0 (L0 (nP ch)) a0 k)) ?_ ?_ (n := hN) (k := 0) (s := N) (Nat.zero_le _) (hN_big (by omega)) ⟨off1.refl, fun a' b ha' => absurd ha' (Nat.not_lt_zero a')⟩
  · rintro K s ⟨i1, i2⟩
    have g : nI (nP ch) ≤ nI (nP ch) := (nI_lei (by omega) (by omega)).mpr (Nat.le_refl _)
    have x0 : hn_ix 4096 (0 : Int32) = true := ix_ok (k := 0) (by decide) (by decide)
    have c0 : (0 : Int32).toNatClampNeg = 0 := by decide
    obtain ⟨N', d1, d2, d3, d4, d5⟩ := settle_5 (c := c) (gG_B (ch := ch) (law := law) (st := N.1 88)) hP (N := hn_wI s 49 0 (0 : Int32)) a0 (fun a b ha hb => by rw [wI_o (by decide)]; exact i2 a b ha hb) wI_s
    have ho : ∀ b, ¬ (47 ≤ b ∧ b ≤ 50) → N'.1 b = N.1 b := fun b hb => by rw [d2 b (by omega) (by omega) (by omega), wI_o (by omega), i1.1 b (by omega)]
    refine ⟨N', ?_, h.tr ho (by rw [d3, wI_2, i1.2]), ho 88 (by decide), d4, d5⟩
    simp only [B_Trade_settle_1, g, ↓reduceIte, x0, hg_T, c0, hl_e, d1]
  · rintro K a s ha ⟨i1, i2⟩
    right
    have g : ¬ nI (nP ch) ≤ nI a := fun q => by have := (nI_lei (by omega) (by omega)).mp q; omega
    have hs : RR c ch law s := h.tr (fun b hb => i1.1 b (by omega)) i1.2
    have o88 : s.1 88 = N.1 88 := i1.1 88 (by decide)
    have o44 : s.1 44 = N.1 44 := i1.1 44 (by decide)
    obtain ⟨N', d1, d2, d3, d4⟩ := settle_2 hs hy ha (fun q hq => by rw [o44, o88]; exact hY q hq) K
    rw [o88] at d3
    refine ⟨N', ⟨i1.trans d2, ?_⟩, by simp only [B_Trade_settle_1, g, ↓reduceIte, d1]⟩
    intro a' b ha' hb
    by_cases q : a' = a
    · subst q; exact d3 b hb
    · rw [d4 _ (by omega)]; exact i2 a' b (by omega) hb
