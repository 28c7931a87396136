/-! what changes: breaks, exchange, undo -/
theorem copies_ok {c a b m : Nat} (ha : a < 25) (hb : b < 25) (hab : a ≠ b) (hm : m ≤ 40) {N : hn} : ∃ N', F_Md_copies c (nI a) (nI b) (nI m) N = some N' ∧ off1 88 N N' ∧ ∀ j, N'.1 88 j = if 40 * b ≤ j ∧ j < 40 * b + m then N.1 88 (40 * a + (j - 40 * b)) else N.1 88 j := by
  refine it_wp (B := B_Md_copies_1 c) (z := fun _ _ _ _ _ => none) (fun K k (s : hn) => K (nI a) (nI b) (nI m) (nI k) s) m
    (fun k s => off1 88 N s ∧ ∀ j, s.1 88 j = if 40 * b ≤ j ∧ j < 40 * b + k then N.1 88 (40 * a + (j - 40 * b)) else N.1 88 j)
    (Q := fun x => ∃ N', x = some N' ∧ off1 88 N N' ∧ ∀ j, N'.1 88 j = if 40 * b ≤ j ∧ j < 40 * b + m then N.1 88 (40 * a + (j - 40 * b)) else N.1 88 j) ?_ ?_ (n := hN) (k := 0) (s := N) (by omega) (hN_big (by omega)) ⟨off1.refl, fun j => by rw [if_neg (by omega)]⟩
  · rintro K s ⟨i1, i2⟩
    refine ⟨s, ?_, i1, i2⟩
    have g : nI m ≤ nI m := Int32.le_refl _
    simp only [B_Md_copies_1, g, ↓reduceIte]
  · rintro K k s hk ⟨i1, i2⟩
    right
    have g : ¬ nI m ≤ nI k := nI_ge hk (by omega)
    have e1 : ((40 : Int32) * nI a) + nI k = nI (40 * a + k) := by rw [show (40 : Int32) = nI 40 from rfl, nI_m, nI_a]
    have e2 : ((40 : Int32) * nI b) + nI k = nI (40 * b + k) := by rw [show (40 : Int32) = nI 40 from rfl, nI_m, nI_a]
    have x1 : hn_ix 1000 (nI (40 * a + k)) = true := ix_ok (by omega) (by decide)
    have x2 : hn_ix 1000 (nI (40 * b + k)) = true := ix_ok (by omega) (by decide)
    have c1 : (nI (40 * a + k)).toNatClampNeg = 40 * a + k := nI_lt31 (by omega)
    have c2 : (nI (40 * b + k)).toNatClampNeg = 40 * b + k := nI_lt31 (by omega)
    refine ⟨hn_wI s 88 (40 * b + k) (s.1 88 (40 * a + k)), ⟨i1.trans off1.w, ?_⟩, ?_⟩
    · intro j
      by_cases e : j = 40 * b + k
      · subst e
        rw [wI_s, if_pos (by omega), i2, if_neg (by omega)]
        exact congrArg _ (by omega)
      · rw [wI_n e, i2]
        by_cases q : 40 * b ≤ j ∧ j < 40 * b + k
        · rw [if_pos q, if_pos (by omega)]
        · rw [if_neg q, if_neg (by omega)]
    · simp only [B_Md_copies_1, g, ↓reduceIte, e1, e2, x1, x2, hg_T, c1, c2, hl_e, ← nI_succ]
def kpS (st : Nat → Int32) (n j : Nat) : Int32 :=
  if n < 20 then (if 40 * (5 + n) ≤ j ∧ j < 40 * (6 + n) then st (j - 40 * (5 + n)) else st j)
  else (if j < 200 then st j else if j < 960 then st (j + 40) else if j < 1000 then st (j - 960) else st j)
theorem kpS_20 {st : Nat → Int32} {j : Nat} : kpS st 20 j = if j < 200 then st j else if j < 960 then st (j + 40) else if j < 1000 then st (j - 960) else st j := by unfold kpS; rw [if_neg (by decide)]
theorem kpS_lt {st : Nat → Int32} {n j : Nat} (h : n < 20) : kpS st n j = if 40 * (5 + n) ≤ j ∧ j < 40 * (6 + n) then st (j - 40 * (5 + n)) else st j := by unfold kpS; rw [if_pos h]
theorem keeps_ok {c n : Nat} (hn20 : n ≤ 20) {N : hn} (e : N.1 76 21 = nI n) : ∃ N', F_Md_keeps c N = some N' ∧ (∀ b, b ≠ 76 → b ≠ 88 → N'.1 b = N.1 b) ∧ N'.2 = N.2 ∧ (∀ k, k ≠ 21 → N'.1 76 k = N.1 76 k) ∧ N'.1 76 21 = nI (min (n + 1) 20) ∧ ∀ j, N'.1 88 j = kpS (N.1 88) n j := by
  -- the last copy
  have last : ∀ (X : hn) (m : Nat), m < 20 → X.1 76 21 = nI m → ∃ N', B_Md_keeps_2 c X = some N' ∧ (∀ b, b ≠ 76 → b ≠ 88 → N'.1 b = X.1 b) ∧ N'.2 = X.2 ∧ (∀ k, k ≠ 21 → N'.1 76 k = X.1 76 k) ∧ N'.1 76 21 = nI (m + 1) ∧ ∀ j, N'.1 88 j = if 40 * (5 + m) ≤ j ∧ j < 40 * (5 + m) + 40 then X.1 88 (j - 40 * (5 + m)) else X.1 88 j := by
    intro X m hm em
    obtain ⟨N1, a1, a2, a3⟩ := copies_ok (c := c) (a := 0) (b := 5 + m) (m := 40) (by omega) (by omega) (by omega) (by omega) (N := X)
    have e5 : (5 : Int32) + nI m = nI (5 + m) := by rw [show (5 : Int32) = nI 5 from rfl, nI_a]
    have a1' : F_Md_copies c (0 : Int32) (nI (5 + m)) (40 : Int32) X = some N1 := a1
    have k21 : N1.1 76 21 = nI m := by rw [a2.1 76 (by decide)]; exact em
    refine ⟨hn_wI N1 76 21 (nI (m + 1)), ?_, ?_, ?_, ?_, wI_s, ?_⟩
    · simp only [B_Md_keeps_2, em, e5, a1', hvN_e, k21, hl_e, ← nI_succ]
    · intro b b1 b2; rw [wI_o b1, a2.1 b b2]
    · show N1.2 = _; exact a2.2
    · intro k hk; rw [wI_n hk, a2.1 76 (by decide)]
    · intro j; rw [wI_o (by decide), a3 j]
      by_cases q : 40 * (5 + m) ≤ j ∧ j < 40 * (5 + m) + 40
      · rw [if_pos q, if_pos q]; exact congrArg _ (by omega)
      · rw [if_neg q, if_neg q]
  by_cases h20 : n = 20
  · subst h20
    have e' : N.1 76 21 = (20 : Int32) := e
    have loop : ∃ N', F_Md_keeps_1 c hN (1 : Int32) N = some N' ∧ (∀ b, b ≠ 76 → b ≠ 88 → N'.1 b = N.1 b) ∧ N'.2 = N.2 ∧ (∀ k, k ≠ 21 → N'.1 76 k = N.1 76 k) ∧ N'.1 76 21 = nI 20 ∧ ∀ j, N'.1 88 j = kpS (N.1 88) 20 j := by
      refine it_wp (B := B_Md_keeps_1 c) (z := fun _ _ => none) (fun K k (s : hn) => K (nI k) s) 20
        (fun k s => 1 ≤ k ∧ off1 88 N s ∧ ∀ j, s.1 88 j = if 200 ≤ j ∧ j < 200 + 40 * (k - 1) then N.1 88 (j + 40) else N.1 88 j)
        (Q := fun x => ∃ N', x = some N' ∧ (∀ b, b ≠ 76 → b ≠ 88 → N'.1 b = N.1 b) ∧ N'.2 = N.2 ∧ (∀ k, k ≠ 21 → N'.1 76 k = N.1 76 k) ∧ N'.1 76 21 = nI 20 ∧ ∀ j, N'.1 88 j = kpS (N.1 88) 20 j) ?_ ?_ (n := hN) (k := 1) (s := N) (by omega) (hN_big (by omega)) ⟨Nat.le_refl _, off1.refl, fun j => by rw [if_neg (by omega)]⟩
      · rintro K s ⟨-, i1, i2⟩
        have s21 : s.1 76 21 = nI 20 := by rw [i1.1 76 (by decide)]; exact e
        have e19 : (nI 20 - (1 : Int32)) = nI 19 := by decide
        obtain ⟨N', b1, b2, b3, b4, b5, b6⟩ := last (hn_wI s 76 21 (nI 19)) 19 (by decide) wI_s
        refine ⟨N', ?_, ?_, ?_, ?_, b5, ?_⟩
        · have g : (20 : Int32) ≤ nI 20 := by decide
          simp only [B_Md_keeps_1, g, ↓reduceIte, s21, e19, hl_e]
          exact b1
        · intro b h1 h2; rw [b2 b h1 h2, wI_o h1, i1.1 b h2]
        · rw [b3]; show s.2 = _; exact i1.2
        · intro k hk; rw [b4 k hk, wI_n hk, i1.1 76 (by decide)]
        · intro j
          rw [b6 j, wI_o (by decide), kpS_20]
          by_cases q : 960 ≤ j ∧ j < 1000
          · rw [if_pos (by omega), i2, if_neg (by omega), if_neg (by omega), if_neg (by omega), if_pos (by omega)]
          · rw [if_neg (by omega), i2]
            by_cases q2 : 200 ≤ j ∧ j < 960
            · rw [if_pos (by omega), if_neg (by omega), if_pos (by omega)]
            · rw [if_neg (by omega)]
              by_cases q3 : j < 200
              · rw [if_pos q3]
              · rw [if_neg q3, if_neg (by omega), if_neg (by omega)]
      · rintro K k s hk ⟨i0, i1, i2⟩
        right
        have g : ¬ (20 : Int32) ≤ nI k := nI_ge (b := 20) hk (by decide)
        have e5 : (5 : Int32) + nI k = nI (5 + k) := by rw [show (5 : Int32) = nI 5 from rfl, nI_a]
        have e6 : nI (5 + k) - (1 : Int32) = nI (5 + k - 1) := nI_s (b := 1) (by omega)
        obtain ⟨N1, a1, a2, a3⟩ := copies_ok (c := c) (a := 5 + k) (b := 5 + k - 1) (m := 40) (by omega) (by omega) (by omega) (by omega) (N := s)
        have a1' : F_Md_copies c (nI (5 + k)) (nI (5 + k - 1)) (40 : Int32) s = some N1 := a1
        refine ⟨N1, ⟨by omega, i1.trans a2, ?_⟩, ?_⟩
        · intro j
          rw [a3 j]
          by_cases q : 40 * (5 + k - 1) ≤ j ∧ j < 40 * (5 + k - 1) + 40
          · rw [if_pos q, i2, if_neg (by omega), if_pos (by omega)]; exact congrArg _ (by omega)
          · rw [if_neg q, i2]
            by_cases q2 : 200 ≤ j ∧ j < 200 + 40 * (k - 1)
            · rw [if_pos q2, if_pos (by omega)]
            · rw [if_neg q2, if_neg (by omega)]
        · simp only [B_Md_keeps_1, g, ↓reduceIte, e5, e6, a1', hvN_e, ← nI_succ]
    obtain ⟨N', b1, b2⟩ := loop
    refine ⟨N', ?_, b2⟩
    simp only [F_Md_keeps, e', ↓reduceIte]
    exact b1
  · have ne : ¬ N.1 76 21 = (20 : Int32) := fun q => h20 ((nI_eqi (b := 20) (by omega) (by decide)).mp (e.symm.trans q))
    obtain ⟨N', b1, b2, b3, b4, b5, b6⟩ := last N n (by omega) e
    refine ⟨N', ?_, b2, b3, b4, by rw [b5, show min (n + 1) 20 = n + 1 by omega], ?_⟩
    · simp only [F_Md_keeps, ne, ↓reduceIte]
      exact b1
    · intro j
      rw [b6 j, kpS_lt (by omega)]
      by_cases q : 40 * (5 + n) ≤ j ∧ j < 40 * (6 + n)
      · rw [if_pos q, if_pos (by omega)]
      · rw [if_neg q, if_neg (by omega)]
theorem undoR.push {ch : Nat → Int32} (hP : nP ch ≤ 12) {N N' : hn} {n nx : Nat} {a b : Int32} (hn20 : n ≤ 20) (hx : nx < 20)
    (hc : ∀ i, i < n → undoS (nP ch) (N.1 41 ((nx + 20 - (n - i)) % 20)) (N.1 42 ((nx + 20 - (n - i)) % 20)) (N.1 88) (if i + 1 = n then 0 else 40 * (6 + i)) (40 * (5 + i)))
    (e1 : N'.1 40 2 = nI (min (n + 1) 20)) (e2 : N'.1 40 3 = nI ((nx + 1) % 20)) (e3 : N'.1 76 21 = nI (min (n + 1) 20)) (e4 : ∀ j, N'.1 41 j = if j = nx then a else N.1 41 j) (e5 : ∀ j, N'.1 42 j = if j = nx then b else N.1 42 j)
    (e6 : ∀ j, 200 ≤ j → N'.1 88 j = kpS (N.1 88) n j) (hop : undoS (nP ch) a b (N'.1 88) 0 (40 * (5 + min n 19))) : undoR ch N' := by
  refine ⟨min (n + 1) 20, (nx + 1) % 20, by omega, by omega, e1, e2, e3, ?_⟩
  intro i hi
  by_cases hn20 : n < 20
  · have m1 : min (n + 1) 20 = n + 1 := by omega
    have m2 : min n 19 = n := by omega
    rw [m1] at hi ⊢
    rw [m2] at hop
    by_cases ei : i = n
    · subst ei
      have ix : ((nx + 1) % 20 + 20 - (i + 1 - i)) % 20 = nx := by omega
      rw [ix, e4, e5, if_pos rfl, if_pos rfl, if_pos rfl]
      exact hop
    · have ix : ((nx + 1) % 20 + 20 - (n + 1 - i)) % 20 = (nx + 20 - (n - i)) % 20 := by omega
      have nx' : (nx + 20 - (n - i)) % 20 ≠ nx := by omega
      rw [ix, e4, e5, if_neg nx', if_neg nx', if_neg (by omega)]
      refine (hc i (by omega)).map hP ?_ ?_
      · intro q hq; rw [e6 _ (by omega)]; unfold kpS; rw [if_pos hn20, if_neg (by omega)]
      · intro q hq; rw [e6 _ (by omega)]; unfold kpS; rw [if_pos hn20]
        by_cases e : i + 1 = n
        · rw [if_pos e, if_pos (by omega)]; exact congrArg _ (by omega)
        · rw [if_neg e, if_neg (by omega)]
  · have n20 : n = 20 := by omega
    subst n20
    have hi' : i < 20 := by omega
    show undoS (nP ch) (N'.1 41 (((nx + 1) % 20 + 20 - (20 - i)) % 20)) (N'.1 42 (((nx + 1) % 20 + 20 - (20 - i)) % 20)) (N'.1 88) (if i + 1 = 20 then 0 else 40 * (6 + i)) (40 * (5 + i))
    by_cases ei : i = 19
    · subst ei
      have ix : ((nx + 1) % 20 + 20 - (20 - 19)) % 20 = nx := by omega
      rw [ix, e4, e5, if_pos rfl, if_pos rfl, if_pos rfl]
      exact hop
    · have ix : ((nx + 1) % 20 + 20 - (20 - i)) % 20 = (nx + 20 - (20 - (i + 1))) % 20 := by omega
      have nx' : (nx + 20 - (20 - (i + 1))) % 20 ≠ nx := by omega
      rw [ix, e4, e5, if_neg nx', if_neg nx', if_neg (by omega)]
      refine (hc (i + 1) (by omega)).map hP ?_ ?_
      · intro q hq; rw [e6 _ (by omega)]; unfold kpS; rw [if_neg (by omega), if_neg (by omega), if_pos (by omega)]; exact congrArg _ (by omega)
      · intro q hq; rw [e6 _ (by omega)]; unfold kpS; rw [if_neg (by omega), if_neg (by omega)]
        by_cases e : i + 1 + 1 = 20
        · rw [if_pos e, if_neg (by omega), if_pos (by omega)]; exact congrArg _ (by omega)
        · rw [if_neg e, if_pos (by omega)]; exact congrArg _ (by omega)
theorem note_ok {c n nx : Nat} (hn20 : n ≤ 20) (hx : nx < 20) {a b : Int32} {N : hn} (e1 : N.1 40 2 = nI n) (e2 : N.1 40 3 = nI nx) :
    F_History_note c a b N = some (hn_wI (hn_wI (hn_wI (hn_wI N 41 nx a) 42 nx b) 40 3 (nI ((nx + 1) % 20))) 40 2 (nI (min (n + 1) 20))) := by
  have x1 : hn_ix 20 (nI nx) = true := ix_ok hx (by decide)
  have c1 : (nI nx).toNatClampNeg = nx := nI_lt31 (by omega)
  have k1 : (hn_wI N 41 nx a).1 40 3 = nI nx := by rw [wI_o (by decide)]; exact e2
  have k2 : (hn_wI (hn_wI N 41 nx a) 42 nx b).1 40 3 = nI nx := by rw [wI_o (by decide)]; exact k1
  have k3 : (hn_wI (hn_wI (hn_wI N 41 nx a) 42 nx b) 40 3 (nI ((nx + 1) % 20))).1 40 2 = nI n := by rw [wI_n (by decide), wI_o (by decide), wI_o (by decide)]; exact e1
  have r1 : (nI nx + (1 : Int32)) - (nI nx + (1 : Int32)) / (20 : Int32) * (20 : Int32) = nI ((nx + 1) % 20) := by
    rw [← nI_succ]; exact nI_r (b := 20) (by omega) (by decide)
  have r2 : hm_min (nI n + (1 : Int32)) (20 : Int32) = nI (min (n + 1) 20) := by
    rw [← nI_succ]; exact min_nI (b := 20) (by omega) (by decide)
  simp only [F_History_note, e2, x1, hg_T, c1, hl_e, k1, k2, r1, k3, r2]
/-- one doing on both sides: the relation stays -/
theorem RR.doing {c : Nat} {ch : Nat → Int32} {law : Law} {N N' : hn} (h : RR c ch law N) {n nx : Nat} {a b : Int32} (hn20 : n ≤ 20) (hx : nx < 20)
    (hc : ∀ i, i < n → undoS (nP ch) (N.1 41 ((nx + 20 - (n - i)) % 20)) (N.1 42 ((nx + 20 - (n - i)) % 20)) (N.1 88) (if i + 1 = n then 0 else 40 * (6 + i)) (40 * (5 + i)))
    (o : ∀ q, q ≠ 36 → q ≠ 37 → q ≠ 40 → q ≠ 41 → q ≠ 42 → q ≠ 76 → q ≠ 88 → N'.1 q = N.1 q) (hL : N'.2 = N.2)
    (e1 : N'.1 40 2 = nI (min (n + 1) 20)) (e2 : N'.1 40 3 = nI ((nx + 1) % 20)) (e3 : N'.1 76 21 = nI (min (n + 1) 20)) (e4 : ∀ j, N'.1 41 j = if j = nx then a else N.1 41 j) (e5 : ∀ j, N'.1 42 j = if j = nx then b else N.1 42 j)
    (e6 : ∀ j, 13 ≤ j → N'.1 88 j = kpS (N.1 88) n j) (e7 : ∀ k, k ≠ 0 → k ≠ 21 → N'.1 76 k = N.1 76 k) (hop : undoS (nP ch) a b (N'.1 88) 0 (40 * (5 + min n 19)))
    (h36 : ∀ k, k ≠ 1 → N'.1 36 k = N.1 36 k) (hb : N'.1 36 1 = N'.1 88 12) (hb2 : ∀ i, nP ch ≤ i → i < 32 → bt (N'.1 88 12) i = false)
    (hg : ∀ p, p < nP ch → N'.1 (36 + 1) p = N'.1 88 p ∧ ∃ o, o < nG ch ∧ N'.1 88 p = nI o) (hg2 : ∀ p, nP ch ≤ p → p < 12 → N'.1 (36 + 1) p = -1) : RR c ch law N' := by
  have hP := h.P.1
  obtain ⟨-, -, -, -, -, ⟨b1, b2, b3, b4, b5, s, s1, s2, s3, s4⟩, a9, a10, a11, a12, -⟩ := id h
  have k40 : ∀ j, 13 ≤ j → j < 200 → N'.1 88 j = N.1 88 j := by
    intro j h1 h2; rw [e6 j h1]; unfold kpS
    by_cases q : n < 20
    · rw [if_pos q, if_neg (by omega)]
    · rw [if_neg q, if_pos h2]
  refine h.st (fun q _ _ => o q (by omega) (by omega) (by omega) (by omega) (by omega) (by omega) (by omega)) (fun q _ _ => o q (by omega) (by omega) (by omega) (by omega) (by omega) (by omega) (by omega)) (fun q _ _ => o q (by omega) (by omega) (by omega) (by omega) (by omega) (by omega) (by omega)) hL ?_ ?_ ?_ ?_ ?_
  · refine ⟨by rw [h36 5 (by decide)]; exact b1, by rw [hb], by simpa using hb2, by simpa using hg, hg2, s, s1, by rw [h36 2 (by decide)]; exact s2, by rw [k40 _ (by omega) (by omega)]; exact s3, ?_⟩
    intro i hi
    rw [o (36 + 2) (by decide) (by decide) (by decide) (by decide) (by decide) (by decide) (by decide), o (36 + 3) (by decide) (by decide) (by decide) (by decide) (by decide) (by decide) (by decide), k40 _ (by omega) (by omega), k40 _ (by omega) (by omega), k40 _ (by omega) (by omega)]
    exact s4 i hi
  · exact undoR.push hP hn20 hx hc e1 e2 e3 e4 e5 (fun j hj => e6 j (by omega)) hop
  · exact a10.st hP (o _ (by decide) (by decide) (by decide) (by decide) (by decide) (by decide) (by decide)) (fun b _ _ => o b (by omega) (by omega) (by omega) (by omega) (by omega) (by omega) (by omega)) (fun j h1 h2 => k40 j (by omega) h2) (o _ (by decide) (by decide) (by decide) (by decide) (by decide) (by decide) (by decide))
  · exact a11.off (o _ (by decide) (by decide) (by decide) (by decide) (by decide) (by decide) (by decide)) (o _ (by decide) (by decide) (by decide) (by decide) (by decide) (by decide) (by decide)) (e7 _ (by decide) (by decide)) (o _ (by decide) (by decide) (by decide) (by decide) (by decide) (by decide) (by decide))
  · rw [e7 _ (by decide) (by decide)]; exact a12
theorem xor_xor (x y : Int32) : x ^^^ y ^^^ y = x := by rw [Int32.xor_assoc, Int32.xor_self, Int32.xor_zero]
theorem bt_flip {x : Int32} {p i : Nat} (hp : p < 32) (hi : i < 32) : bt (x ^^^ ((1 : Int32) <<< (nI p &&& 31))) i = (bt x i ^^ decide (i = p)) := by rw [b_xor, bt_1sh hp hi]
theorem kp_lo {st : Nat → Int32} {n j : Nat} (hn20 : n ≤ 20) (hj : j < 200) : kpS st n j = st j := by
  unfold kpS
  by_cases q : n < 20
  · rw [if_pos q, if_neg (by omega)]
  · rw [if_neg q, if_pos hj]
theorem kp_new {st : Nat → Int32} {n q : Nat} (hn20 : n ≤ 20) (hq : q < 40) : kpS st n (40 * (5 + min n 19) + q) = st q := by
  unfold kpS
  by_cases e : n < 20
  · rw [if_pos e, show min n 19 = n by omega, if_pos (by omega)]; exact congrArg _ (by omega)
  · rw [if_neg e, show min n 19 = 19 by omega, if_neg (by omega), if_neg (by omega), if_pos (by omega)]; exact congrArg _ (by omega)
theorem a_breaks {c : Nat} {ch : Nat → Int32} {law : Law} {N : hn} (h : RR c ch law N) (v w : Int32) : alike c ch law (F_Ps_breaks c v w) (F_Md_breaks c v w) N := by
  obtain ⟨hP, -, -, -, -, -, p4, -⟩ := h.P
  have hX := h.thr (v := 0)
  obtain ⟨-, -, -, -, x4, -, -, -⟩ := hX.P
  obtain ⟨b1, b2, b3, b4, b5⟩ := h.hold
  have z : ¬ (1 : Int32) = 0 := by decide
  by_cases hv : inR (nP ch) v
  · obtain ⟨p, hp, rfl⟩ := hv
    by_cases hb : (if bt (N.1 88 12) p then (1 : Int32) else 0) = w
    · obtain ⟨-, -, -, -, -, -, ⟨n, nx, n1, n2, n3, n4, n5, n6⟩, -⟩ := id h
      obtain ⟨Na, ea⟩ : ∃ Na, Na = hn_wI N 36 1 (N.1 88 12 ^^^ ((1 : Int32) <<< (nI p &&& 31))) := ⟨_, rfl⟩
      have oa : ∀ q, q ≠ 36 → Na.1 q = N.1 q := fun q hq => by rw [ea, wI_o hq]
      have nt := note_ok (c := c) (a := nI p) (b := (-1 : Int32)) (N := Na) n1 n2 (by rw [oa 40 (by decide)]; exact n3) (by rw [oa 40 (by decide)]; exact n4)
      obtain ⟨N1, en1⟩ : ∃ N1, N1 = hn_wI (hn_wI (hn_wI (hn_wI Na 41 nx (nI p)) 42 nx (-1)) 40 3 (nI ((nx + 1) % 20))) 40 2 (nI (min (n + 1) 20)) := ⟨_, rfl⟩
      rw [← en1] at nt
      have o1 : ∀ q, q ≠ 36 → q ≠ 40 → q ≠ 41 → q ≠ 42 → N1.1 q = N.1 q := fun q h1 h2 h3 h4 => by rw [en1, wI_o h2, wI_o h2, wI_o h4, wI_o h3, oa q h1]
      obtain ⟨X, eX⟩ : ∃ X, X = hn_wI N1 76 0 0 := ⟨_, rfl⟩
      have oX : ∀ q, q ≠ 76 → X.1 q = N1.1 q := fun q hq => by rw [eX, wI_o hq]
      have x21 : X.1 76 21 = nI n := by rw [eX, wI_n (by decide), o1 76 (by decide) (by decide) (by decide) (by decide)]; exact n5
      obtain ⟨N6, k1, k2, k3, k4, k5, k6⟩ := keeps_ok (c := c) n1 x21
      have x88 : X.1 88 = N.1 88 := by rw [oX 88 (by decide), o1 88 (by decide) (by decide) (by decide) (by decide)]
      rw [x88] at k6
      have n612 : N6.1 88 12 = N.1 88 12 := by rw [k6, kp_lo n1 (by decide)]
      obtain ⟨N2, en2⟩ : ∃ N2, N2 = hn_wI N6 88 12 (N.1 88 12 ^^^ ((1 : Int32) <<< (nI p &&& 31))) := ⟨_, rfl⟩
      have x82 : X.1 82 4 = nI (nP ch) := by rw [oX 82 (by decide), o1 82 (by decide) (by decide) (by decide) (by decide)]; exact h.P.2.2.2.2.1
      have n2k : ∀ j, j ≠ 12 → N2.1 88 j = kpS (N.1 88) n j := fun j hj => by rw [en2, wI_n hj, k6]
      have n212 : N2.1 88 12 = N.1 88 12 ^^^ ((1 : Int32) <<< (nI p &&& 31)) := by rw [en2, wI_s]
      have o2 : ∀ q, q ≠ 76 → q ≠ 88 → N2.1 q = N1.1 q := fun q h1 h2 => by rw [en2, wI_o h2, k2 q h1 h2, oX q h1]
      refine ⟨1, N1, N2, ?_, ?_, ?_⟩
      · simp only [F_Ps_breaks, psP_y (show nP ch < 2147483648 by omega) hp p4, hbN_e, z, ↓reduceIte, psBk (show p < 32 by omega), F_Hold_turn, hl_e, hvN_e, b2, hb]
        rw [← ea, nt, hvN_e]
      · have hb' : (if bt (X.1 88 12) p then (1 : Int32) else 0) = w := by rw [x88]; exact hb
        simp only [F_Md_breaks, hl_e]
        rw [← eX]
        simp only [mdP_y (show nP ch < 2147483648 by omega) hp x82, hbN_e, z, ↓reduceIte, isBroken_ok (show p < 32 by omega), hb', k1, hvN_e, x_1000_12, hg_T, t_12, n612]
        rw [← en2]
      · refine h.doing (a := nI p) (b := -1) n1 n2 n6 (fun q h1 _ h3 h4 h5 h6 h7 => by rw [o2 q h6 h7, o1 q h1 h3 h4 h5]) ?_ ?_ ?_ ?_ ?_ ?_ (fun j hj => n2k j (by omega)) ?_ ?_ ?_ ?_ ?_ ?_ ?_
        · rw [en2]; show N6.2 = _; rw [k3, eX, en1, ea]; rfl
        · rw [o2 40 (by decide) (by decide), en1, wI_s]
        · rw [o2 40 (by decide) (by decide), en1, wI_n (by decide), wI_s]
        · rw [en2, wI_o (by decide)]; exact k5
        · intro j; rw [o2 41 (by decide) (by decide), en1, wI_o (by decide), wI_o (by decide), wI_o (by decide), wI_i, oa 41 (by decide)]; simp
        · intro j; rw [o2 42 (by decide) (by decide), en1, wI_o (by decide), wI_o (by decide), wI_i, wI_o (by decide), oa 42 (by decide)]; simp
        · intro k h1 h2; rw [en2, wI_o (by decide), k4 k h2, eX, wI_n h1, o1 76 (by decide) (by decide) (by decide) (by decide)]
        · refine ⟨p, hp, rfl, Or.inl ⟨rfl, ?_, ?_⟩⟩
          · intro q hq; rw [n2k _ (by omega), n2k _ (by omega), kp_new n1 (by omega), Nat.zero_add, kp_lo n1 (by omega)]
          · rw [n2k _ (by omega), kp_new n1 (by decide), n212, xor_xor]
        · intro k hk; rw [o2 36 (by decide) (by decide), en1, wI_o (by decide), wI_o (by decide), wI_o (by decide), wI_o (by decide), ea, wI_n hk]
        · rw [o2 36 (by decide) (by decide), en1, wI_o (by decide), wI_o (by decide), wI_o (by decide), wI_o (by decide), ea, wI_s, n212]
        · intro i h1 h2; rw [n212, bt_flip (by omega) h2, b5 i h1 h2]; simp; omega
        · intro q hq; rw [o2 (36 + 1) (by decide) (by decide), o1 (36 + 1) (by decide) (by decide) (by decide) (by decide), n2k q (by omega), kp_lo n1 (by omega)]; exact b3 q hq
        · intro q h1 h2; rw [o2 (36 + 1) (by decide) (by decide), o1 (36 + 1) (by decide) (by decide) (by decide) (by decide)]; exact b4 q h1 h2
    · refine ⟨0, N, _, ?_, ?_, hX⟩
      · have hb' : ¬ (if bt (N.1 36 1) p then (1 : Int32) else 0) = w := by rw [b2]; exact hb
        simp only [F_Ps_breaks, psP_y (show nP ch < 2147483648 by omega) hp p4, hbN_e, z, ↓reduceIte, psBk (show p < 32 by omega), hb']
      · have hb' : ¬ (if bt ((hn_wI N 76 0 0).1 88 12) p then (1 : Int32) else 0) = w := by rw [wI_o (by decide)]; exact hb
        simp only [F_Md_breaks, hl_e, mdP_y (show nP ch < 2147483648 by omega) hp x4, hbN_e, z, ↓reduceIte, isBroken_ok (show p < 32 by omega), hb']
  · refine ⟨0, N, _, ?_, ?_, hX⟩
    · simp only [F_Ps_breaks, psP_n (show nP ch < 2147483648 by omega) hv p4, hbN_e, ↓reduceIte]
    · simp only [F_Md_breaks, hl_e, mdP_n (show nP ch < 2147483648 by omega) hv x4, hbN_e, ↓reduceIte]
