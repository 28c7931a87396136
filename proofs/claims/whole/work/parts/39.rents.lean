/-! what panes yield: the class's side -/
def facR (t : Nat) (place many : Int32) : Nat → Int32 := fun f => if f = 0 then nI (t / 24) else if f = 1 then nI (t % 24) else if f = 4 then place - place / 8 * 8 else if f = 5 then place / 8 else if f = 6 then many else 0
def rentS (law : Law) (t : Nat) (place many : Int32) : Int32 :=
  if lawV law 3 (facR t place many) < 0 then 0 else if 999 < lawV law 3 (facR t place many) then 999 else lawV law 3 (facR t place many)
/-- who shares a pane's spot -/
def grp (ch : Nat → Int32) (law : Law) (L : Nat → Bool) (t p : Nat) : Nat → Bool := fun q => decide (spF ch law t q = spF ch law t p) && L q
/-- what a pane yields at a time, if L are lit -/
def shS (ch : Nat → Int32) (law : Law) (L : Nat → Bool) (t p : Nat) : Int32 :=
  if L p = true ∧ spF ch law t p ≠ -1 then rentS law t (spF ch law t p) (nI (fb_ct (grp ch law L t p) 12)) / nI (fb_ct (grp ch law L t p) 12) else 0
theorem min_max (r : Int32) : hm_min (hm_max r 0) 999 = if r < 0 then 0 else if 999 < r then 999 else r := by
  unfold hm_min hm_max
  by_cases h : r < 0
  · simp only [h, ↓reduceIte]; decide
  · simp only [h, ↓reduceIte]
theorem fac_cong {law : Law} (hl : lawOK law) {X : Nat → Int32} {t : Nat} {place many : Int32} (h0 : X 0 = nI (t / 24)) (h1 : X 1 = nI (t % 24)) (h4 : X 4 = place - place / 8 * 8) (h5 : X 5 = place / 8) (h6 : X 6 = many) :
    lawV law 3 X = lawV law 3 (facR t place many) := by
  apply lawV_cong hl (by decide)
  intro f hf
  have h7 := hf.1
  have h8 := hf.2
  have : f = 0 ∨ f = 1 ∨ f = 4 ∨ f = 5 ∨ f = 6 := by omega
  rcases this with rfl | rfl | rfl | rfl | rfl
  · rw [h0]; rfl
  · rw [h1]; rfl
  · rw [h4]; rfl
  · rw [h5]; rfl
  · rw [h6]; rfl
def off2 (c : Nat) (N N' : hn) : Prop := (∀ b, b ≠ c + 12 → b ≠ c + 13 → N'.1 b = N.1 b) ∧ N'.2 = N.2 ∧ N'.1 (c + 13) 0 = N.1 (c + 13) 0 ∧ N'.1 (c + 13) 1 = N.1 (c + 13) 1
theorem partOf_ok {c : Nat} (hc : isChap c) {ch : Nat → Int32} {law : Law} {N : hn} (hl : lawOK law) (h : chapP c ch law N) {t m : Nat} {place : Int32}
    (hf0 : N.1 (c + 13) 0 = nI (t / 24)) (hf1 : N.1 (c + 13) 1 = nI (t % 24)) (hm : 0 < m) (hm2 : m < 2147483648) :
    ∃ N', F_Rents_partOf c (c + 8) place (nI m) N = some (rentS law t place (nI m) / nI m, N') ∧ off2 c N N' := by
  have hcc : c = 5 ∨ c = 20 := hc
  obtain ⟨N1, e1⟩ : ∃ N1, N1 = hn_wI (hn_wI (hn_wI N (c + 13) 4 (place - place / 8 * 8)) (c + 13) 5 (place / 8)) (c + 13) 6 (nI m) := ⟨_, rfl⟩
  have o1 : ∀ b, b ≠ c + 13 → N1.1 b = N.1 b := fun b hb => by rw [e1, wI_o hb, wI_o hb, wI_o hb]
  have a0 : N1.1 (c + 13) 0 = N.1 (c + 13) 0 := by rw [e1, wI_n (by decide), wI_n (by decide), wI_n (by decide)]
  have a1 : N1.1 (c + 13) 1 = N.1 (c + 13) 1 := by rw [e1, wI_n (by decide), wI_n (by decide), wI_n (by decide)]
  have a4 : N1.1 (c + 13) 4 = place - place / 8 * 8 := by rw [e1, wI_n (by decide), wI_n (by decide), wI_s]
  have a5 : N1.1 (c + 13) 5 = place / 8 := by rw [e1, wI_n (by decide), wI_s]
  have a6 : N1.1 (c + 13) 6 = nI m := by rw [e1, wI_s]
  obtain ⟨N2, v1, v2⟩ := valueOf_ok (c' := c) (k := 3) hc (by decide) hl (h.off hc (fun b _ _ => o1 b (by omega)))
  rw [fac_cong hl (a0.trans hf0) (a1.trans hf1) a4 a5 a6] at v1
  have v1' : F_Laws_valueOf c (c + 8) (138 : Int32) N1 = _ := v1
  refine ⟨N2, ?_, ⟨?_, ?_, ?_, ?_⟩⟩
  · have g1 : ¬ nI m ≤ 0 := nI_nle hm (by omega)
    have g2 : ¬ nI m = 0 := nI_ne0 hm (by omega)
    simp only [F_Rents_partOf, F_Laws_lookAtSpot, x_7_4, x_7_5, x_7_6, hg_T, hl_s, t_4, t_5, t_6, c8_5, hvN_s]
    rw [← e1, v1']
    simp only [hbN_s, g1, g2, not_false_eq_true, hg_T, ↓reduceIte, min_max]
    rfl
  · intro b b1 b2; rw [v2.1 b b1, o1 b b2]
  · rw [v2.2, e1]; rfl
  · rw [v2.1 _ (by omega), a0]
  · rw [v2.1 _ (by omega), a1]
theorem share_2 {c : Nat} {K : Int32 → Int32 → Int32 → Int32 → hn → Option hn} {lit left partners part : Int32} {y k : Nat} (hy : y < 17) (hk : k ≤ 12) {N : hn} :
    ∃ N', F_Rents_shareOut_2 c K hN lit (nI y) left (nI k) partners part (nI k) N = K lit (nI y) (left &&& (partners ^^^ (-1 : Int32))) (nI (k + 1)) N' ∧ off1 44 N N' ∧
      (∀ q, k ≤ q → q < 12 → N'.1 44 (y * 12 + q) = N.1 44 (y * 12 + q) + (if bt partners q then part else 0)) ∧ (∀ j, (j < y * 12 + k ∨ y * 12 + 12 ≤ j) → N'.1 44 j = N.1 44 j) := by
  refine it_wp (B := B_Rents_shareOut_2 c K) (z := fun _ _ _ _ _ _ _ _ => none) (fun K' q (s : hn) => K' lit (nI y) left (nI k) partners part (nI q) s) 12
    (fun i s => k ≤ i ∧ off1 44 N s ∧ (∀ q, k ≤ q → q < i → s.1 44 (y * 12 + q) = N.1 44 (y * 12 + q) + (if bt partners q then part else 0)) ∧ (∀ j, (j < y * 12 + k ∨ y * 12 + i ≤ j) → s.1 44 j = N.1 44 j))
    (Q := fun x => ∃ N', x = K lit (nI y) (left &&& (partners ^^^ (-1 : Int32))) (nI (k + 1)) N' ∧ off1 44 N N' ∧
      (∀ q, k ≤ q → q < 12 → N'.1 44 (y * 12 + q) = N.1 44 (y * 12 + q) + (if bt partners q then part else 0)) ∧ (∀ j, (j < y * 12 + k ∨ y * 12 + 12 ≤ j) → N'.1 44 j = N.1 44 j)) ?_ ?_ (n := hN) (k := k) (s := N) hk (hN_big (by omega)) ⟨Nat.le_refl _, off1.refl, fun q h1 h2 => absurd h2 (by omega), fun _ _ => rfl⟩
  · rintro K' s ⟨i0, i1, i2, i3⟩
    refine ⟨s, ?_, i1, i2, i3⟩
    have g : (12 : Int32) ≤ nI 12 := by decide
    simp only [B_Rents_shareOut_2, g, ↓reduceIte, hl_s, ← nI_succ]
  · rintro K' i s hi ⟨i0, i1, i2, i3⟩
    right
    have g : ¬ (12 : Int32) ≤ nI i := nI_ge (b := 12) hi (by decide)
    have e : (nI y * (12 : Int32)) + nI i = nI (y * 12 + i) := by rw [show (12 : Int32) = nI 12 from rfl, nI_m, nI_a]
    have x1 : hn_ix 204 (nI (y * 12 + i)) = true := ix_ok (by omega) (by decide)
    have c1 : (nI (y * 12 + i)).toNatClampNeg = y * 12 + i := nI_lt31 (by omega)
    refine ⟨hn_wI s 44 (y * 12 + i) (s.1 44 (y * 12 + i) + (((partners >>> (nI i &&& 31)) &&& (1 : Int32)) * part)), ⟨by omega, i1.trans off1.w, ?_, ?_⟩, ?_⟩
    · intro q' h1 h2
      by_cases e2 : q' = i
      · subst e2
        rw [wI_s, i3 _ (Or.inr (Nat.le_refl _)), bt_sh0 (by omega)]
        by_cases hb : bt partners q' = true
        · rw [if_pos hb, if_pos hb, Int32.one_mul]
        · rw [if_neg hb, if_neg hb, Int32.zero_mul]
      · rw [wI_n (by omega)]; exact i2 q' h1 (by omega)
    · intro j hj
      rw [wI_n (by omega)]; exact i3 j (by omega)
    · simp only [B_Rents_shareOut_2, g, ↓reduceIte, hl_s, e, x1, hg_T, c1, ← nI_succ]
