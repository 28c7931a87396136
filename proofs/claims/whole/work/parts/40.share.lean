/-! what panes yield at one time: the class's side -/
/-- the same, not as rewriting by definition: for rows in which a long loop stands -/
theorem hbN_e {α β : Type} {r : α} {N : hn} {k : α → hn → Option β} : hbN (some (r, N)) k = k r N := Eq.trans (Eq.refl _) (Eq.refl _)
theorem hvN_e {β : Type} {N : hn} {k : hn → Option β} : hvN (some N) k = k N := Eq.trans (Eq.refl _) (Eq.refl _)
theorem hl_e {α β : Type} {x : α} {k : α → β} : hl x k = k x := Eq.trans (Eq.refl _) (Eq.refl _)
theorem or_bit {x : Int32} {k : Nat} (hk : k < 32) (h : bt x k = true) : x ||| ((1 : Int32) <<< (nI k &&& 31)) = x := by
  apply b_ext
  intro i hi
  rw [b_or, bt_1sh hk hi]
  by_cases e : i = k
  · subst e; simp [h]
  · simp [e]
def offS (c y : Nat) (N N' : hn) : Prop := (∀ b, b ≠ 44 → b ≠ c + 12 → b ≠ c + 13 → N'.1 b = N.1 b) ∧ N'.2 = N.2 ∧ N'.1 (c + 13) 0 = N.1 (c + 13) 0 ∧ N'.1 (c + 13) 1 = N.1 (c + 13) 1 ∧ (∀ j, (j < y * 12 ∨ y * 12 + 12 ≤ j) → N'.1 44 j = N.1 44 j)
theorem offS.refl {c y : Nat} {N : hn} : offS c y N N := ⟨fun _ _ _ _ => rfl, rfl, rfl, rfl, fun _ _ => rfl⟩
theorem offS.trans {c y : Nat} {N N1 N2 : hn} (h : offS c y N N1) (h2 : offS c y N1 N2) : offS c y N N2 :=
  ⟨fun b a1 a2 a3 => (h2.1 b a1 a2 a3).trans (h.1 b a1 a2 a3), h2.2.1.trans h.2.1, h2.2.2.1.trans h.2.2.1, h2.2.2.2.1.trans h.2.2.2.1, fun j hj => (h2.2.2.2.2 j hj).trans (h.2.2.2.2 j hj)⟩
theorem ct_pos {p : Nat → Bool} {k n : Nat} (hk : k < n) (h : p k = true) : 0 < fb_ct p n := fb_ct_pos.mpr ⟨k, hk, h⟩
theorem shareOut_ok {c : Nat} (hc : isChap c) {ch : Nat → Int32} {law : Law} {N : hn} (hch : chOK ch) (hl : lawOK law) (h : chapP c ch law N) {t y : Nat} (hy : y < 17) (ha : atT c ch law t N) {lit : Int32} :
    ∃ N', F_Rents_shareOut c lit (nI y) N = some N' ∧ offS c y N N' ∧ ∀ q, q < 12 → N'.1 44 (y * 12 + q) = N.1 44 (y * 12 + q) + shS ch law (bt lit) t q := by
  have hcc : c = 5 ∨ c = 20 := hc
  obtain ⟨a1, a2, a3, a4⟩ := ha
  refine it_wp (B := B_Rents_shareOut_1 c) (z := fun _ _ _ _ _ => none) (fun K k (s : Int32 × hn) => K lit (nI y) s.1 (nI k) s.2) 12
    (fun k s => offS c y N s.2 ∧ (∀ q, q < 12 → (bt s.1 q = true ↔ (bt lit q = true ∧ ¬ ∃ r, r < k ∧ bt lit r = true ∧ spF ch law t r ≠ -1 ∧ spF ch law t r = spF ch law t q))) ∧
      (∀ q, q < 12 → ((bt lit q = true ∧ ∃ r, r < k ∧ bt lit r = true ∧ spF ch law t r ≠ -1 ∧ spF ch law t r = spF ch law t q) → s.2.1 44 (y * 12 + q) = N.1 44 (y * 12 + q) + shS ch law (bt lit) t q) ∧
        (¬ (bt lit q = true ∧ ∃ r, r < k ∧ bt lit r = true ∧ spF ch law t r ≠ -1 ∧ spF ch law t r = spF ch law t q) → s.2.1 44 (y * 12 + q) = N.1 44 (y * 12 + q))))
    (Q := fun x => ∃ N', x = some N' ∧ offS c y N N' ∧ ∀ q, q < 12 → N'.1 44 (y * 12 + q) = N.1 44 (y * 12 + q) + shS ch law (bt lit) t q) ?_ ?_ (n := hN) (k := 0) (s := (lit, N)) (by omega) (hN_big (by omega)) ⟨offS.refl, ?_, ?_⟩
  · rintro K ⟨left, s⟩ ⟨i1, i2, i3⟩
    refine ⟨s, ?_, i1, ?_⟩
    · have g : (12 : Int32) ≤ nI 12 := by decide
      simp only [B_Rents_shareOut_1, g, ↓reduceIte]
    · intro q hq
      by_cases h1 : bt lit q = true ∧ spF ch law t q ≠ -1
      · exact (i3 q hq).1 ⟨h1.1, q, hq, h1.1, h1.2, rfl⟩
      · have e0 : shS ch law (bt lit) t q = 0 := by unfold shS; rw [if_neg h1]
        rw [e0, Int32.add_zero]
        apply (i3 q hq).2
        rintro ⟨b1, r, -, -, b2, b3⟩
        exact h1 ⟨b1, by rw [← b3]; exact b2⟩
  · rintro K k ⟨left, s⟩ hk ⟨i1, i2, i3⟩
    simp only at i1 i2 i3
    right
    have g : ¬ (12 : Int32) ≤ nI k := nI_ge (b := 12) hk (by decide)
    have x1 : hn_ix 12 (nI k) = true := ix_ok hk (by decide)
    have c1 : (nI k).toNatClampNeg = k := nI_lt31 (by omega)
    have s34 : s.1 34 = N.1 34 := i1.1 34 (by decide) (by omega) (by omega)
    have s34k : ∀ p, p < 12 → s.1 34 p = spF ch law t p := fun p hp => by rw [s34]; exact a4 p hp
    -- what no step of this pane changes
    have same : (∀ q, (∃ r, r < k + 1 ∧ bt lit r = true ∧ spF ch law t r ≠ -1 ∧ spF ch law t r = spF ch law t q) ↔ (∃ r, r < k ∧ bt lit r = true ∧ spF ch law t r ≠ -1 ∧ spF ch law t r = spF ch law t q)) →
        B_Rents_shareOut_1 c K lit (nI y) left (nI k) s = K lit (nI y) left (nI (k + 1)) s →
        ∃ s' : Int32 × hn, (offS c y N s'.2 ∧ (∀ q, q < 12 → (bt s'.1 q = true ↔ (bt lit q = true ∧ ¬ ∃ r, r < k + 1 ∧ bt lit r = true ∧ spF ch law t r ≠ -1 ∧ spF ch law t r = spF ch law t q))) ∧
      (∀ q, q < 12 → ((bt lit q = true ∧ ∃ r, r < k + 1 ∧ bt lit r = true ∧ spF ch law t r ≠ -1 ∧ spF ch law t r = spF ch law t q) → s'.2.1 44 (y * 12 + q) = N.1 44 (y * 12 + q) + shS ch law (bt lit) t q) ∧
        (¬ (bt lit q = true ∧ ∃ r, r < k + 1 ∧ bt lit r = true ∧ spF ch law t r ≠ -1 ∧ spF ch law t r = spF ch law t q) → s'.2.1 44 (y * 12 + q) = N.1 44 (y * 12 + q)))) ∧
        B_Rents_shareOut_1 c K lit (nI y) left (nI k) s = K lit (nI y) s'.1 (nI (k + 1)) s'.2 := by
      intro e1 e2
      refine ⟨(left, s), ⟨i1, ?_, ?_⟩, e2⟩
      · intro q hq; rw [e1 q]; exact i2 q hq
      · intro q hq; rw [e1 q]; exact i3 q hq
    by_cases hL : bt left k = true
    · obtain ⟨l1, l2⟩ := (i2 k hk).mp hL
      by_cases hs : spF ch law t k = -1
      · apply same
        · intro q
          constructor
          · rintro ⟨r, r1, r2, r3, r4⟩
            by_cases e : r = k
            · subst e; exact absurd hs r3
            · exact ⟨r, by omega, r2, r3, r4⟩
          · rintro ⟨r, r1, r2⟩; exact ⟨r, by omega, r2⟩
        · simp only [B_Rents_shareOut_1, g, ↓reduceIte, bt_sh (show k < 32 by omega), hL, x1, hg_T, c1, s34k k hk, hs, ← nI_succ]
      · obtain ⟨m, hm⟩ : ∃ m, m = fb_ct (grp ch law (bt lit) t k) 12 := ⟨_, rfl⟩
        have gk : grp ch law (bt lit) t k k = true := by simp [grp, l1]
        have m0 : 0 < m := by rw [hm]; exact ct_pos hk gk
        have m1 : m ≤ 12 := by rw [hm]; exact fb_ct_le _ _
        have hchs : chapP c ch law s := h.off hc (fun b _ _ => i1.1 b (by omega) (by omega) (by omega))
        obtain ⟨N6, v1, v2⟩ := partOf_ok hc hl hchs (place := spF ch law t k) (m := m) (t := t) (i1.2.2.1.trans a2) (i1.2.2.2.1.trans a3) m0 (by omega)
        obtain ⟨N7, w1, w2, w3, w4⟩ := share_2 (c := c) (K := K) (lit := lit) (left := left) (partners := bitsF (grp ch law (bt lit) t k) 12) (part := rentS law t (spF ch law t k) (nI m) / nI m) hy (show k ≤ 12 by omega) (N := N6)
        have n44 : N6.1 44 = s.1 44 := v2.1 44 (by omega) (by omega)
        have oo : offS c y s N7 := by
          refine ⟨?_, ?_, ?_, ?_, ?_⟩
          · intro b b1 b2 b3; rw [w2.1 b b1, v2.1 b b2 b3]
          · rw [w2.2, v2.2.1]
          · rw [w2.1 _ (by omega), v2.2.2.1]
          · rw [w2.1 _ (by omega), v2.2.2.2]
          · intro j hj; rw [w4 j (by omega), n44]
        have eb : ∀ q, q < 12 → bt (bitsF (grp ch law (bt lit) t k) 12) q = grp ch law (bt lit) t k q := by
          intro q hq; rw [bt_bitsF (by decide) (by omega)]; simp [hq]
        have dn : ∀ q, (∃ r, r < k + 1 ∧ bt lit r = true ∧ spF ch law t r ≠ -1 ∧ spF ch law t r = spF ch law t q) ↔ ((∃ r, r < k ∧ bt lit r = true ∧ spF ch law t r ≠ -1 ∧ spF ch law t r = spF ch law t q) ∨ spF ch law t k = spF ch law t q) := by
          intro q
          constructor
          · rintro ⟨r, r1, r2, r3, r4⟩
            by_cases e : r = k
            · subst e; exact Or.inr r4
            · exact Or.inl ⟨r, by omega, r2, r3, r4⟩
          · rintro (⟨r, r1, r2⟩ | e)
            · exact ⟨r, by omega, r2⟩
            · exact ⟨k, by omega, l1, hs, e⟩
        have nk : ∀ q, spF ch law t k = spF ch law t q → ¬ ∃ r, r < k ∧ bt lit r = true ∧ spF ch law t r ≠ -1 ∧ spF ch law t r = spF ch law t q := by
          rintro q e ⟨r, r1, r2, r3, r4⟩
          exact l2 ⟨r, r1, r2, r3, r4.trans e.symm⟩
        have lowp : ∀ q, q < k → grp ch law (bt lit) t k q = false := by
          intro q hq
          by_cases e : grp ch law (bt lit) t k q = true
          · simp only [grp, Bool.and_eq_true, decide_eq_true_eq] at e
            exact absurd ⟨q, hq, e.2, by rw [e.1]; exact hs, e.1⟩ l2
          · simpa using e
        refine ⟨(left &&& (bitsF (grp ch law (bt lit) t k) 12 ^^^ (-1 : Int32)), N7), ⟨i1.trans oo, ?_, ?_⟩, ?_⟩
        · intro q hq
          show bt (left &&& (bitsF (grp ch law (bt lit) t k) 12 ^^^ (-1 : Int32))) q = true ↔ _
          rw [b_and, bt_not (by omega), eb q hq, dn q]
          simp only [grp, Bool.and_eq_true, Bool.not_eq_true', Bool.and_eq_false_iff, decide_eq_false_iff_not]
          constructor
          · rintro ⟨b1, b2⟩
            obtain ⟨b3, b4⟩ := (i2 q hq).mp b1
            refine ⟨b3, ?_⟩
            rintro (b5 | b5)
            · exact b4 b5
            · rcases b2 with b2 | b2
              · exact b2 b5.symm
              · rw [b2] at b3; exact absurd b3 (by decide)
          · rintro ⟨b1, b2⟩
            refine ⟨(i2 q hq).mpr ⟨b1, fun b3 => b2 (Or.inl b3)⟩, Or.inl (fun e => b2 (Or.inr e.symm))⟩
        · intro q hq
          show (_ → N7.1 44 (y * 12 + q) = _) ∧ (_ → N7.1 44 (y * 12 + q) = _)
          rw [dn q]
          have val : N7.1 44 (y * 12 + q) = s.1 44 (y * 12 + q) + (if grp ch law (bt lit) t k q then rentS law t (spF ch law t k) (nI m) / nI m else 0) := by
            rcases Nat.lt_or_ge q k with ql | ql
            · rw [w4 _ (Or.inl (by omega)), n44, lowp q ql]; simp
            · rw [w3 q ql hq, n44, eb q hq]
          by_cases e : spF ch law t k = spF ch law t q
          · by_cases lq : bt lit q = true
            · have gq : grp ch law (bt lit) t k q = true := by simp [grp, lq, e]
              have e2 : shS ch law (bt lit) t q = rentS law t (spF ch law t k) (nI m) / nI m := by
                have eg : grp ch law (bt lit) t q = grp ch law (bt lit) t k := by funext z; simp [grp, e]
                unfold shS
                rw [if_pos ⟨lq, by rw [← e]; exact hs⟩, eg, ← hm, e]
              rw [val, gq, if_pos rfl, (i3 q hq).2 (fun b => nk q e b.2), e2]
              exact ⟨fun _ => rfl, fun b => absurd ⟨lq, Or.inr e⟩ b⟩
            · have gq : grp ch law (bt lit) t k q = false := by simp at lq; simp [grp, lq]
              rw [val, gq]
              refine ⟨fun b => absurd b.1 lq, fun _ => ?_⟩
              simp only [Bool.false_eq_true, ↓reduceIte, Int32.add_zero]
              exact (i3 q hq).2 (fun b => lq b.1)
          · have gq : grp ch law (bt lit) t k q = false := by simp [grp, Ne.symm e]
            rw [val, gq]
            simp only [Bool.false_eq_true, ↓reduceIte, Int32.add_zero, e, or_false]
            exact i3 q hq
        · show B_Rents_shareOut_1 c K lit (nI y) left (nI k) s = K lit (nI y) (left &&& (bitsF (grp ch law (bt lit) t k) 12 ^^^ (-1 : Int32))) (nI (k + 1)) N7
          have pe : bitsF (fun p => decide (s.1 34 p = spF ch law t k) && bt lit p) 12 = bitsF (grp ch law (bt lit) t k) 12 := bitsF_cong (fun i hi => by rw [s34k i hi]; rfl)
          have ob : bitsF (grp ch law (bt lit) t k) 12 ||| ((1 : Int32) <<< (nI k &&& 31)) = bitsF (grp ch law (bt lit) t k) 12 := or_bit (by omega) (by rw [eb k hk]; exact gk)
          simp only [B_Rents_shareOut_1, g, ↓reduceIte, bt_sh (show k < 32 by omega), hL, x1, hg_T, c1, s34k k hk, hs, panesOn_ok, hbN_e, hl_e, pe, ob, bitCount_ok]
          rw [← hm, v1, hbN_e, w1]
    · apply same
      · intro q
        constructor
        · rintro ⟨r, r1, r2, r3, r4⟩
          by_cases e : r = k
          · subst e
            by_cases d : ∃ r', r' < r ∧ bt lit r' = true ∧ spF ch law t r' ≠ -1 ∧ spF ch law t r' = spF ch law t r
            · obtain ⟨r', d1, d2, d3, d4⟩ := d
              exact ⟨r', d1, d2, d3, d4.trans r4⟩
            · exact absurd ((i2 r hk).mpr ⟨r2, d⟩) hL
          · exact ⟨r, by omega, r2, r3, r4⟩
        · rintro ⟨r, r1, r2⟩; exact ⟨r, by omega, r2⟩
      · have hL' : bt left k = false := by simpa using hL
        have z : ¬ (false = true) := by decide
        simp only [B_Rents_shareOut_1, g, ↓reduceIte, bt_sh (show k < 32 by omega), hL', Bool.false_eq_true, ← nI_succ]
  · intro q hq
    constructor
    · intro b; exact ⟨b, fun ⟨r, r1, _⟩ => absurd r1 (Nat.not_lt_zero r)⟩
    · intro b; exact b.1
  · intro q hq
    exact ⟨fun ⟨_, r, r1, _⟩ => absurd r1 (Nat.not_lt_zero r), fun _ => rfl⟩
