/-! the chapel told, where light falls: words that both sides share (ch: the reference's row of the chapel, law: its four laws) -/
def nP (ch : Nat → Int32) : Nat := (ch 4).toNatClampNeg
def nG (ch : Nat → Int32) : Nat := (ch 3).toNatClampNeg
def nW (ch : Nat → Int32) : Nat := (ch 0).toNatClampNeg
def nD (ch : Nat → Int32) : Nat := (ch 1).toNatClampNeg
def nC (ch : Nat → Int32) : Nat := (ch 2).toNatClampNeg
def chOK (ch : Nat → Int32) : Prop :=
  (ch 0 = nI (nW ch) ∧ 1 ≤ nW ch ∧ nW ch ≤ 8) ∧ (ch 1 = nI (nD ch) ∧ 1 ≤ nD ch ∧ nD ch ≤ 8) ∧ (ch 2 = nI (nC ch) ∧ nC ch ≤ 8) ∧
  (ch 3 = nI (nG ch) ∧ nG ch ≤ 6) ∧ (ch 4 = nI (nP ch) ∧ nP ch ≤ 12) ∧
  (∀ p, p < nP ch → (∃ m, m < 8 ∧ ch (17 + 4 * p) = nI m) ∧ (∃ m, m < 4 ∧ ch (18 + 4 * p) = nI m) ∧ (∃ m, m < nG ch ∧ ch (19 + 4 * p) = nI m) ∧ (∃ m, m < 8 ∧ ch (20 + 4 * p) = nI m)) ∧
  (∀ g, g < nG ch → (∃ m, m < 8 ∧ ch (5 + 2 * g) = nI m) ∧ (∃ m, m < 10000 ∧ ch (6 + 2 * g) = nI m))
abbrev Law : Type := Nat → Option (List (Nat × Int32))
def lawOK (law : Law) : Prop := ∀ k, k < 4 → ∀ l, law k = some l → l ≠ [] ∧ okL k 0 l 1
def lawV (law : Law) (k : Nat) (fx : Nat → Int32) : Int32 := match law k with
  | some l => valL fx l
  | none => if k = 0 then fx 1 - 12 else if k = 1 then fx 3 else if k = 2 then (if fx 1 < 6 then 1 else if fx 1 ≤ 18 then 0 else 1) else 1
theorem lawV_cong {law : Law} (hl : lawOK law) {k : Nat} (hk : k < 4) {fx fy : Nat → Int32} (h : ∀ f, mayF k f → fx f = fy f) : lawV law k fx = lawV law k fy := by
  unfold lawV
  cases e : law k with
  | some l => exact valL_cong h (hl k hk l e).2
  | none =>
    have h1 := h 1 ⟨by omega, by omega⟩
    show (if k = 0 then fx 1 - 12 else if k = 1 then fx 3 else if k = 2 then (if fx 1 < 6 then 1 else if fx 1 ≤ 18 then 0 else 1) else (1 : Int32)) = (if k = 0 then fy 1 - 12 else if k = 1 then fy 3 else if k = 2 then (if fy 1 < 6 then 1 else if fy 1 ≤ 18 then 0 else 1) else (1 : Int32))
    rw [h1]
    by_cases k0 : k = 0
    · simp [k0]
    · by_cases k1 : k = 1
      · rw [h 3 ⟨by omega, by omega⟩]
      · simp [k0, k1]
def facT (t : Nat) (a b : Int32) : Nat → Int32 := fun f => if f = 0 then nI (t / 24) else if f = 1 then nI (t % 24) else if f = 2 then a else if f = 3 then b else 0
def darkS (law : Law) (t : Nat) : Prop := ¬ lawV law 2 (facT t 0 0) = 0
def xS (ch : Nat → Int32) (law : Law) (t p : Nat) : Int32 := ch (17 + 4 * p) + lawV law 0 (facT t (ch (17 + 4 * p)) (ch (18 + 4 * p)))
def yS (ch : Nat → Int32) (law : Law) (t p : Nat) : Int32 := lawV law 1 (facT t (ch (17 + 4 * p)) (ch (18 + 4 * p)))
/-- 0: no light falls; else one more than the place -/
def spotN (ch : Nat → Int32) (law : Law) (t p : Nat) : Nat :=
  if lawV law 2 (facT t 0 0) = 0 then
    (if xS ch law t p < 0 then 0 else if ch 0 ≤ xS ch law t p then 0 else if yS ch law t p < 0 then 0 else if ch 1 ≤ yS ch law t p then 0
     else (8 * (yS ch law t p) + xS ch law t p).toNatClampNeg + 1)
  else 0
def aS (ch : Nat → Int32) (law : Law) (t p : Nat) : Nat := if p < nP ch then spotN ch law t p else 0
theorem spotN_le {ch : Nat → Int32} (hc : chOK ch) (law : Law) (t p : Nat) : spotN ch law t p ≤ 64 := by
  obtain ⟨⟨w1, -, w2⟩, ⟨d1, -, d2⟩, -⟩ := hc
  unfold spotN
  split
  · split
    · omega
    · split
      · omega
      · split
        · omega
        · split
          · omega
          · rename_i h1 h2 h3 h4
            rw [w1] at h2
            rw [d1] at h4
            obtain ⟨x, hx, ex⟩ := i32_in h1 h2 (by omega)
            obtain ⟨y, hy, ey⟩ := i32_in h3 h4 (by omega)
            rw [ex, ey, show (8 : Int32) = nI 8 from rfl, nI_m, nI_a, nI_lt31 (by omega)]
            omega
  · omega
theorem aS_le {ch : Nat → Int32} (hc : chOK ch) (law : Law) (t p : Nat) : aS ch law t p ≤ 64 := by
  unfold aS; split
  · exact spotN_le hc law t p
  · omega
/-- what stands in spots -/
def spF (ch : Nat → Int32) (law : Law) (t p : Nat) : Int32 := nI (aS ch law t p) - 1
theorem spF_0 : nI 0 - (1 : Int32) = -1 := by decide
theorem spF_or {ch : Nat → Int32} (hc : chOK ch) (law : Law) (t p : Nat) : spF ch law t p = -1 ∨ ∃ m, m < 64 ∧ spF ch law t p = nI m := by
  have h := aS_le hc law t p
  unfold spF
  rcases Nat.eq_zero_or_pos (aS ch law t p) with h0 | h0
  · rw [h0]; exact Or.inl (by decide)
  · obtain ⟨m, hm⟩ : ∃ m, aS ch law t p = m + 1 := ⟨aS ch law t p - 1, by omega⟩
    rw [hm, nI_pred]
    exact Or.inr ⟨m, by omega, rfl⟩
theorem spF_out {ch : Nat → Int32} {law : Law} {t p : Nat} (h : nP ch ≤ p) : spF ch law t p = -1 := by
  unfold spF aS
  rw [if_neg (by omega)]; decide
/-- the chapel in the class's memory -/
def chapP (c : Nat) (ch : Nat → Int32) (law : Law) (N : hn) : Prop :=
  (∀ k, k < 5 → N.1 c k = ch k) ∧
  (∀ p, p < nP ch → N.1 (c + 4) p = ch (17 + 4 * p) ∧ N.1 (c + 5) p = ch (18 + 4 * p) ∧ N.1 (c + 7) p = ch (20 + 4 * p)) ∧
  (∀ g, g < nG ch → N.1 (c + 2) g = ch (5 + 2 * g) ∧ N.1 (c + 3) g = ch (6 + 2 * g)) ∧
  (∀ k, k < 4 → match law k with
    | some l => segP N (c + 8) k l
    | none => N.1 (c + 10) k = nI 0 ∧ N.1 (c + 11) k = nI 0)
/-- what a question may change of the light's cells -/
def offL (c : Nat) (N N' : hn) : Prop := (∀ b, b ≠ 19 → b ≠ 34 → b ≠ c + 12 → b ≠ c + 13 → N'.1 b = N.1 b) ∧ (∀ b, b ≠ 35 → N'.2 b = N.2 b)
theorem offL.refl {c : Nat} {N : hn} : offL c N N := ⟨fun _ _ _ _ _ => rfl, fun _ _ => rfl⟩
theorem offL.trans {c : Nat} {N N1 N2 : hn} (h : offL c N N1) (h2 : offL c N1 N2) : offL c N N2 :=
  ⟨fun b a1 a2 a3 a4 => (h2.1 b a1 a2 a3 a4).trans (h.1 b a1 a2 a3 a4), fun b a => (h2.2 b a).trans (h.2 b a)⟩
theorem chapP.off {c : Nat} (hc : isChap c) {ch : Nat → Int32} {law : Law} {N N' : hn} (h : chapP c ch law N)
    (ho : ∀ b, c ≤ b → b ≤ c + 11 → N'.1 b = N.1 b) : chapP c ch law N' := by
  obtain ⟨h1, h2, h3, h4⟩ := h
  refine ⟨?_, ?_, ?_, ?_⟩
  · rw [ho c (by omega) (by omega)]; exact h1
  · rw [ho (c + 4) (by omega) (by omega), ho (c + 5) (by omega) (by omega), ho (c + 7) (by omega) (by omega)]; exact h2
  · rw [ho (c + 2) (by omega) (by omega), ho (c + 3) (by omega) (by omega)]; exact h3
  · intro k hk
    have := h4 k hk
    cases e : law k with
    | none =>
      rw [e] at this
      show N'.1 (c + 10) k = nI 0 ∧ N'.1 (c + 11) k = nI 0
      rw [ho (c + 10) (by omega) (by omega), ho (c + 11) (by omega) (by omega)]; exact this
    | some l =>
      rw [e] at this
      show segP N' (c + 8) k l
      unfold segP
      rw [ho (c + 8 + 2) (by omega) (by omega), ho (c + 8 + 3) (by omega) (by omega), ho (c + 8 + 1) (by omega) (by omega)]; exact this
theorem chapP.offL {c : Nat} (hc : isChap c) {ch : Nat → Int32} {law : Law} {N N' : hn} (h : chapP c ch law N) (ho : offL c N N') : chapP c ch law N' := by
  have hcc : c = 5 ∨ c = 20 := hc
  exact h.off hc (fun b h1 h2 => ho.1 b (by omega) (by omega) (by omega) (by omega))
theorem valueOf_ok {c k : Nat} {c' : Nat} (hc : isChap c) (hk : k < 4) {ch : Nat → Int32} {law : Law} {N : hn} (hl : lawOK law) (h : chapP c ch law N) :
    ∃ N', F_Laws_valueOf c' (c + 8) (nI (135 + k)) N = some (lawV law k (N.1 (c + 13)), N') ∧ off1 (c + 12) N N' := by
  have h4 := h.2.2.2 k hk
  cases e : law k with
  | none =>
    rw [e] at h4
    refine ⟨N, ?_, off1.refl⟩
    rw [valueOf_untold hk h4]
    simp only [lawV, e]
  | some l =>
    rw [e] at h4
    obtain ⟨l1, l2⟩ := hl k hk l e
    obtain ⟨N', a1, a2⟩ := valueOf_told (c := c') hc.l hk l1 l2 h4
    refine ⟨N', ?_, a2⟩
    rw [a1]
    simp only [lawV, e]
