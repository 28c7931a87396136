/-! what changes: mark (the class's by its own plain function, which part 7x links) -/
def F_Ps_mark (c : Nat) (v1 v2 : Int32) (N : hn) : Option (Int32 × hn) :=
  (if v1 < 0 then some ((0 : Int32), N) else (if v1 < (4 : Int32) then (if v2 = 0 then hvN (F_Hold_copy c (60 + 4 * v1.toNatClampNeg) 36 N) fun N1 =>
  hl (hn_wI N1 1 9 ((N1.1 1 9) ||| ((1 : Int32) <<< (v1 &&& 31)))) fun N2 => some ((1 : Int32), N2) else
  (if (((N.1 1 9) >>> (v1 &&& 31)) &&& (1 : Int32)) = 0 then some ((0 : Int32), N) else hvN (F_Hold_copy c 36 (60 + 4 * v1.toNatClampNeg) N) fun N1 =>
  hvN (F_History_forget c N1) fun N2 => some ((1 : Int32), N2))) else some ((0 : Int32), N)))
def sepH (v w : Nat) : Prop := v + 4 ≤ w ∨ w + 4 ≤ v
theorem copy_2 {c v w : Nat} (hs : sepH v w) {N : hn} : ∃ N', F_Hold_copy_2 c hN v w (0 : Int32) N = some N' ∧ (∀ b, b ≠ v + 2 → b ≠ v + 3 → N'.1 b = N.1 b) ∧ N'.2 = N.2 ∧ ∀ i, i < 8 → N'.1 (v + 2) i = N.1 (w + 2) i ∧ N'.1 (v + 3) i = N.1 (w + 3) i := by
  unfold sepH at hs
  refine it_wp (B := B_Hold_copy_2 c) (z := fun _ _ _ _ => none) (fun K k (s : hn) => K v w (nI k) s) 8
    (fun k s => (∀ b, b ≠ v + 2 → b ≠ v + 3 → s.1 b = N.1 b) ∧ s.2 = N.2 ∧ ∀ i, i < k → s.1 (v + 2) i = N.1 (w + 2) i ∧ s.1 (v + 3) i = N.1 (w + 3) i)
    (Q := fun x => ∃ N', x = some N' ∧ (∀ b, b ≠ v + 2 → b ≠ v + 3 → N'.1 b = N.1 b) ∧ N'.2 = N.2 ∧ ∀ i, i < 8 → N'.1 (v + 2) i = N.1 (w + 2) i ∧ N'.1 (v + 3) i = N.1 (w + 3) i) ?_ ?_ (n := hN) (k := 0) (s := N) (by omega) (hN_big (by omega)) ⟨fun _ _ _ => rfl, rfl, fun i hi => absurd hi (Nat.not_lt_zero i)⟩
  · rintro K s ⟨i1, i2, i3⟩
    refine ⟨s, ?_, i1, i2, i3⟩
    have g : (8 : Int32) ≤ nI 8 := by decide
    simp only [B_Hold_copy_2, g, ↓reduceIte]
  · rintro K k s hk ⟨i1, i2, i3⟩
    right
    have g : ¬ (8 : Int32) ≤ nI k := nI_ge (b := 8) hk (by decide)
    have x1 : hn_ix 8 (nI k) = true := ix_ok hk (by decide)
    have c1 : (nI k).toNatClampNeg = k := nI_lt31 (by omega)
    have e2 : s.1 (w + 2) = N.1 (w + 2) := i1 _ (by omega) (by omega)
    have e3 : (hn_wI s (v + 2) k (N.1 (w + 2) k)).1 (w + 3) k = N.1 (w + 3) k := by rw [wI_o (by omega), i1 _ (by omega) (by omega)]
    refine ⟨hn_wI (hn_wI s (v + 2) k (N.1 (w + 2) k)) (v + 3) k (N.1 (w + 3) k), ⟨?_, i2, ?_⟩, ?_⟩
    · intro b b1 b2; rw [wI_o b2, wI_o b1, i1 b b1 b2]
    · intro i hi
      by_cases e : i = k
      · subst e; rw [wI_o (by omega), wI_s, wI_s]; exact ⟨rfl, rfl⟩
      · rw [wI_n e, wI_n e, wI_n e, wI_n e]; exact i3 i (by omega)
    · simp only [B_Hold_copy_2, g, ↓reduceIte, x1, hg_T, c1, hl_e, e2, e3, ← nI_succ]
theorem copy_ok {c v w : Nat} (hs : sepH v w) {N : hn} : ∃ N', F_Hold_copy c v w N = some N' ∧ (∀ b, b ≠ v → b ≠ v + 1 → b ≠ v + 2 → b ≠ v + 3 → N'.1 b = N.1 b) ∧ N'.2 = N.2 ∧
    N'.1 v 1 = N.1 w 1 ∧ N'.1 v 2 = N.1 w 2 ∧ N'.1 v 5 = N.1 w 5 ∧ (∀ i, i < 12 → N'.1 (v + 1) i = N.1 (w + 1) i) ∧ ∀ i, i < 8 → N'.1 (v + 2) i = N.1 (w + 2) i ∧ N'.1 (v + 3) i = N.1 (w + 3) i := by
  have hs' := hs
  unfold sepH at hs'
  have e1 : (hn_wI N v 5 (N.1 w 5)).1 w 1 = N.1 w 1 := by rw [wI_o (by omega)]
  have e2 : (hn_wI (hn_wI N v 5 (N.1 w 5)) v 1 (N.1 w 1)).1 w 2 = N.1 w 2 := by rw [wI_o (by omega), wI_o (by omega)]
  obtain ⟨X, eX⟩ : ∃ X, X = hn_wI (hn_wI (hn_wI N v 5 (N.1 w 5)) v 1 (N.1 w 1)) v 2 (N.1 w 2) := ⟨_, rfl⟩
  have oX : ∀ b, b ≠ v → X.1 b = N.1 b := fun b hb => by rw [eX, wI_o hb, wI_o hb, wI_o hb]
  have x1 : X.1 v 1 = N.1 w 1 := by rw [eX, wI_n (by decide), wI_s]
  have x2 : X.1 v 2 = N.1 w 2 := by rw [eX, wI_s]
  have x5 : X.1 v 5 = N.1 w 5 := by rw [eX, wI_n (by decide), wI_n (by decide), wI_s]
  have lead : F_Hold_copy c v w N = F_Hold_copy_1 c hN v w (0 : Int32) X := by
    simp only [F_Hold_copy, hl_e, e1, e2]
    rw [← eX]
  rw [lead]
  refine it_wp (B := B_Hold_copy_1 c) (z := fun _ _ _ _ => none) (fun K k (s : hn) => K v w (nI k) s) 12
    (fun k s => (∀ b, b ≠ v + 1 → s.1 b = X.1 b) ∧ s.2 = X.2 ∧ ∀ i, i < k → s.1 (v + 1) i = N.1 (w + 1) i)
    (Q := fun x => ∃ N', x = some N' ∧ (∀ b, b ≠ v → b ≠ v + 1 → b ≠ v + 2 → b ≠ v + 3 → N'.1 b = N.1 b) ∧ N'.2 = N.2 ∧ N'.1 v 1 = N.1 w 1 ∧ N'.1 v 2 = N.1 w 2 ∧ N'.1 v 5 = N.1 w 5 ∧ (∀ i, i < 12 → N'.1 (v + 1) i = N.1 (w + 1) i) ∧ ∀ i, i < 8 → N'.1 (v + 2) i = N.1 (w + 2) i ∧ N'.1 (v + 3) i = N.1 (w + 3) i) ?_ ?_ (n := hN) (k := 0) (s := X) (by omega) (hN_big (by omega)) ⟨fun _ _ => rfl, rfl, fun i hi => absurd hi (Nat.not_lt_zero i)⟩
  · rintro K s ⟨i1, i2, i3⟩
    obtain ⟨N', b1, b2, b3, b4⟩ := copy_2 (c := c) hs (N := s)
    refine ⟨N', ?_, ?_, ?_, ?_, ?_, ?_, ?_, ?_⟩
    · have g : (12 : Int32) ≤ nI 12 := by decide
      simp only [B_Hold_copy_1, g, ↓reduceIte]
      exact b1
    · intro b q1 q2 q3 q4; rw [b2 b q3 q4, i1 b q2, oX b q1]
    · rw [b3, i2, eX]; rfl
    · rw [b2 v (by omega) (by omega), i1 v (by omega)]; exact x1
    · rw [b2 v (by omega) (by omega), i1 v (by omega)]; exact x2
    · rw [b2 v (by omega) (by omega), i1 v (by omega)]; exact x5
    · intro i hi; rw [b2 (v + 1) (by omega) (by omega)]; exact i3 i hi
    · intro i hi; have := b4 i hi; rwa [i1 (w + 2) (by omega), i1 (w + 3) (by omega), oX (w + 2) (by omega), oX (w + 3) (by omega)] at this
  · rintro K k s hk ⟨i1, i2, i3⟩
    right
    have g : ¬ (12 : Int32) ≤ nI k := nI_ge (b := 12) hk (by decide)
    have y1 : hn_ix 12 (nI k) = true := ix_ok hk (by decide)
    have c1 : (nI k).toNatClampNeg = k := nI_lt31 (by omega)
    have ew : s.1 (w + 1) = N.1 (w + 1) := by rw [i1 _ (by omega), oX _ (by omega)]
    refine ⟨hn_wI s (v + 1) k (N.1 (w + 1) k), ⟨?_, i2, ?_⟩, ?_⟩
    · intro b hb; rw [wI_o hb, i1 b hb]
    · intro i hi
      by_cases e : i = k
      · subst e; rw [wI_s]
      · rw [wI_n e]; exact i3 i (by omega)
    · simp only [B_Hold_copy_1, g, ↓reduceIte, y1, hg_T, c1, hl_e, ew, ← nI_succ]
/-- what a mark holds, carried over -/
theorem holdR.carry {v w bv bw : Nat} {ch : Nat → Int32} (hP : nP ch ≤ 12) {N N' : hn} (h : holdR w bw ch N) (e1 : N'.1 v 1 = N.1 w 1) (e2 : N'.1 v 2 = N.1 w 2) (e5 : N'.1 v 5 = N.1 w 5)
    (f1 : ∀ i, i < 12 → N'.1 (v + 1) i = N.1 (w + 1) i) (f2 : ∀ i, i < 8 → N'.1 (v + 2) i = N.1 (w + 2) i ∧ N'.1 (v + 3) i = N.1 (w + 3) i) (g : ∀ q, q < 40 → N'.1 88 (bv + q) = N.1 88 (bw + q)) : holdR v bv ch N' := by
  obtain ⟨a1, a2, a3, a4, a5, s, s1, s2, s3, s4⟩ := h
  refine ⟨by rw [e5]; exact a1, by rw [e1, g 12 (by decide)]; exact a2, by rw [g 12 (by decide)]; exact a3, ?_, ?_, s, s1, by rw [e2]; exact s2, by rw [g 13 (by decide)]; exact s3, ?_⟩
  · intro p hp; rw [f1 p (by omega), g p (by omega)]; exact a4 p hp
  · intro p h1 h2; rw [f1 p h2]; exact a5 p h1 h2
  · intro i hi
    rw [(f2 i (by omega)).1, (f2 i (by omega)).2, Nat.add_assoc bv, Nat.add_assoc bv, Nat.add_assoc bv, g _ (by omega), g _ (by omega), g _ (by omega), ← Nat.add_assoc bw, ← Nat.add_assoc bw, ← Nat.add_assoc bw]
    exact s4 i hi
theorem nar_b1 : vp_nar .boolean (1 : Int32) = 1 := by decide
theorem a_mark {c : Nat} {ch : Nat → Int32} {law : Law} {N : hn} (h : RR c ch law N) (v w : Int32) : alike c ch law (F_Ps_mark c v w) (F_Md_mark c v w) N := by
  obtain ⟨hP, hG, -⟩ := h.P
  have hX := h.thr (v := 0)
  have z : ¬ (1 : Int32) = 0 := by decide
  by_cases hv : inR 4 v
  · obtain ⟨m, hm, rfl⟩ := hv
    have g1 : ¬ nI m < 0 := nI_nn (by omega)
    have g2 : nI m < (4 : Int32) := nI_lt (b := 4) hm (by decide)
    have c1 : (nI m).toNatClampNeg = m := nI_lt31 (by omega)
    have x1 : hn_ix 4 (nI m) = true := ix_ok hm (by decide)
    have ew : ∀ X, F_Md_within c (nI m) (0 : Int32) (3 : Int32) X = some (1, X) := fun X => mdW_y (k := 3) (by decide) hm
    have e1m : (1 : Int32) + nI m = nI (1 + m) := by rw [show (1 : Int32) = nI 1 from rfl, nI_a]
    obtain ⟨-, -, -, -, -, a8, a9, a10, a11, a12, -⟩ := id h
    obtain ⟨q1, q2, q3⟩ := a10 m hm
    by_cases hw : w = 0
    · obtain ⟨Na, k1, k2, k3, k4, k5, k6, k7, k8⟩ := copy_ok (c := c) (v := 60 + 4 * m) (w := 36) (Or.inr (by omega)) (N := N)
      obtain ⟨N1, en1⟩ : ∃ N1, N1 = hn_wI Na 1 9 (Na.1 1 9 ||| ((1 : Int32) <<< (nI m &&& 31))) := ⟨_, rfl⟩
      have na1 : Na.1 1 = N.1 1 := k2 1 (by omega) (by omega) (by omega) (by omega)
      have o1 : ∀ b, b ≠ 1 → N1.1 b = Na.1 b := fun b hb => by rw [en1, wI_o hb]
      obtain ⟨X, eX⟩ : ∃ X, X = hn_wI (hn_wI N1 76 0 0) 89 m 1 := ⟨_, rfl⟩
      have oX : ∀ b, b ≠ 76 → b ≠ 89 → X.1 b = N1.1 b := fun b h1 h2 => by rw [eX, wI_o h2, wI_o h1]
      obtain ⟨N2, d1, d2, d3⟩ := copies_ok (c := c) (a := 0) (b := 1 + m) (m := 40) (by omega) (by omega) (by omega) (by omega) (N := X)
      have x88 : X.1 88 = N.1 88 := by rw [oX 88 (by decide) (by decide), o1 88 (by decide), k2 88 (by omega) (by omega) (by omega) (by omega)]
      rw [x88] at d3
      have o2 : ∀ b, b ≠ 76 → b ≠ 88 → b ≠ 89 → N2.1 b = N1.1 b := fun b h1 h2 h3 => by rw [d2.1 b h2, oX b h1 h3]
      have o : ∀ b, b ≠ 1 → b ≠ 60 + 4 * m → b ≠ 61 + 4 * m → b ≠ 62 + 4 * m → b ≠ 63 + 4 * m → b ≠ 76 → b ≠ 88 → b ≠ 89 → N2.1 b = N.1 b := fun b h1 h2 h3 h4 h5 h6 h7 h8 => by
        rw [o2 b h6 h7 h8, o1 b h1, k2 b h2 (by omega) (by omega) (by omega)]
      have o76 : ∀ k, k ≠ 0 → N2.1 76 k = N.1 76 k := fun k hk => by rw [d2.1 76 (by decide), eX, wI_o (by decide), wI_n hk, o1 76 (by decide), k2 76 (by omega) (by omega) (by omega) (by omega)]
      have o89 : ∀ k, N2.1 89 k = if k = m then 1 else N.1 89 k := fun k => by
        rw [d2.1 89 (by decide), eX, wI_i]
        by_cases e : k = m
        · simp [e]
        · simp only [e, and_false, ↓reduceIte]; rw [wI_o (by decide), o1 89 (by decide), k2 89 (by omega) (by omega) (by omega) (by omega)]
      have n88 : ∀ j, (j < 40 * (1 + m) ∨ 40 * (1 + m) + 40 ≤ j) → N2.1 88 j = N.1 88 j := fun j hj => by rw [d3 j, if_neg (by omega)]
      have c88 : ∀ q, q < 40 → N2.1 88 (40 * (1 + m) + q) = N.1 88 (0 + q) := fun q hq => by rw [d3 _, if_pos (by omega)]; exact congrArg _ (by omega)
      have lb : N2.1 1 9 = N.1 1 9 ||| ((1 : Int32) <<< (nI m &&& 31)) := by rw [o2 1 (by decide) (by decide) (by decide), en1, wI_s, na1]
      refine ⟨1, N1, N2, ?_, ?_, ?_⟩
      · simp only [F_Ps_mark, g1, g2, hw, ↓reduceIte, c1, k1, hvN_e, hl_e]
        rw [← en1]
      · have d1' : F_Md_copies c (0 : Int32) (nI (1 + m)) (40 : Int32) X = some N2 := d1
        simp only [F_Md_mark, hl_e, ew, hbN_e, z, hw, ↓reduceIte, B_Md_mark_1, x1, hg_T, c1, nar_b1, e1m]
        rw [← eX, d1', hvN_e]
      · refine h.st (fun b _ _ => o b (by omega) (by omega) (by omega) (by omega) (by omega) (by omega) (by omega) (by omega)) (fun b _ _ => o b (by omega) (by omega) (by omega) (by omega) (by omega) (by omega) (by omega) (by omega)) (fun b _ _ => o b (by omega) (by omega) (by omega) (by omega) (by omega) (by omega) (by omega) (by omega)) ?_ ?_ ?_ ?_ ?_ ?_
        · rw [d2.2, eX]; show N1.2 = _; rw [en1]; show Na.2 = _; exact k3
        · exact a8.st hP (o _ (by omega) (by omega) (by omega) (by omega) (by omega) (by omega) (by omega) (by omega)) (o _ (by omega) (by omega) (by omega) (by omega) (by omega) (by omega) (by omega) (by omega)) (o _ (by omega) (by omega) (by omega) (by omega) (by omega) (by omega) (by omega) (by omega)) (o _ (by omega) (by omega) (by omega) (by omega) (by omega) (by omega) (by omega) (by omega)) (fun j _ hj => n88 j (by omega))
        · exact a9.st hP (o _ (by omega) (by omega) (by omega) (by omega) (by omega) (by omega) (by omega) (by omega)) (o _ (by omega) (by omega) (by omega) (by omega) (by omega) (by omega) (by omega) (by omega)) (o _ (by omega) (by omega) (by omega) (by omega) (by omega) (by omega) (by omega) (by omega)) (o76 _ (by decide)) (fun j hj => n88 j (by omega))
        · intro k hk
          rw [lb, o89 k, b_or, bt_1sh (by omega) (by omega)]
          by_cases e : k = m
          · subst e
            rw [if_pos rfl]
            refine ⟨Or.inr rfl, by simp, fun _ => ?_⟩
            refine a8.carry hP ?_ ?_ ?_ ?_ ?_ c88
            · rw [o2 _ (by omega) (by omega) (by omega), o1 _ (by omega)]; exact k4
            · rw [o2 _ (by omega) (by omega) (by omega), o1 _ (by omega)]; exact k5
            · rw [o2 _ (by omega) (by omega) (by omega), o1 _ (by omega)]; exact k6
            · intro i hi; rw [o2 _ (by omega) (by omega) (by omega), o1 _ (by omega)]; exact k7 i hi
            · intro i hi; rw [o2 _ (by omega) (by omega) (by omega), o1 _ (by omega), o2 _ (by omega) (by omega) (by omega), o1 _ (by omega)]; exact k8 i hi
          · rw [if_neg e]
            obtain ⟨r1, r2, r3⟩ := a10 k hk
            simp only [e, decide_false, Bool.or_false]
            refine ⟨r1, r2, fun b => (r3 b).st hP (o _ (by omega) (by omega) (by omega) (by omega) (by omega) (by omega) (by omega) (by omega)) (o _ (by omega) (by omega) (by omega) (by omega) (by omega) (by omega) (by omega) (by omega)) (o _ (by omega) (by omega) (by omega) (by omega) (by omega) (by omega) (by omega) (by omega)) (o _ (by omega) (by omega) (by omega) (by omega) (by omega) (by omega) (by omega) (by omega)) (fun j h1 h2 => n88 j (by omega))⟩
        · exact a11.off (o _ (by omega) (by omega) (by omega) (by omega) (by omega) (by omega) (by omega) (by omega)) (o _ (by omega) (by omega) (by omega) (by omega) (by omega) (by omega) (by omega) (by omega)) (o76 _ (by decide)) (o _ (by omega) (by omega) (by omega) (by omega) (by omega) (by omega) (by omega) (by omega))
        · rw [o76 _ (by decide)]; exact a12
    · by_cases hl : bt (N.1 1 9) m = true
      · have hb := q3 hl
        have n0 : ¬ ((N.1 1 9 >>> (nI m &&& 31)) &&& (1 : Int32)) = 0 := by rw [bt_shz (by omega), hl]; decide
        obtain ⟨Na, k1, k2, k3, k4, k5, k6, k7, k8⟩ := copy_ok (c := c) (v := 36) (w := 60 + 4 * m) (Or.inl (by omega)) (N := N)
        obtain ⟨N1, en1⟩ : ∃ N1, N1 = hn_wI (hn_wI Na 40 2 0) 40 3 0 := ⟨_, rfl⟩
        have o1 : ∀ b, b ≠ 40 → N1.1 b = Na.1 b := fun b hb => by rw [en1, wI_o hb, wI_o hb]
        obtain ⟨X, eX⟩ : ∃ X, X = hn_wI N1 76 0 0 := ⟨_, rfl⟩
        have oX : ∀ b, b ≠ 76 → X.1 b = N1.1 b := fun b h1 => by rw [eX, wI_o h1]
        obtain ⟨N3, d1, d2, d3⟩ := copies_ok (c := c) (a := 1 + m) (b := 0) (m := 40) (by omega) (by omega) (by omega) (by omega) (N := X)
        have x88 : X.1 88 = N.1 88 := by rw [oX 88 (by decide), o1 88 (by decide), k2 88 (by omega) (by omega) (by omega) (by omega)]
        rw [x88] at d3
        obtain ⟨N2, en2⟩ : ∃ N2, N2 = hn_wI N3 76 21 0 := ⟨_, rfl⟩
        have o2 : ∀ b, b ≠ 76 → b ≠ 88 → N2.1 b = N1.1 b := fun b h1 h2 => by rw [en2, wI_o h1, d2.1 b h2, oX b h1]
        have o : ∀ b, b ≠ 36 → b ≠ 37 → b ≠ 38 → b ≠ 39 → b ≠ 40 → b ≠ 76 → b ≠ 88 → N2.1 b = N.1 b := fun b h1 h2 h3 h4 h5 h6 h7 => by
          rw [o2 b h6 h7, o1 b h5, k2 b h1 h2 h3 h4]
        have o76 : ∀ k, k ≠ 0 → k ≠ 21 → N2.1 76 k = N.1 76 k := fun k h1 h2 => by rw [en2, wI_n h2, d2.1 76 (by decide), eX, wI_n h1, o1 76 (by decide), k2 76 (by omega) (by omega) (by omega) (by omega)]
        have v88 : N2.1 88 = N3.1 88 := by rw [en2, wI_o (by decide)]
        have n88 : ∀ j, 40 ≤ j → N2.1 88 j = N.1 88 j := fun j hj => by rw [v88, d3 j, if_neg (by omega)]
        have c88 : ∀ q, q < 40 → N2.1 88 (0 + q) = N.1 88 (40 * (1 + m) + q) := fun q hq => by rw [v88, d3 _, if_pos (by omega)]; exact congrArg _ (by omega)
        have m89 : ¬ X.1 89 m = 0 := by rw [oX 89 (by decide), o1 89 (by decide), k2 89 (by omega) (by omega) (by omega) (by omega)]; exact q2.mp hl
        refine ⟨1, N1, N2, ?_, ?_, ?_⟩
        · simp only [F_Ps_mark, g1, g2, hw, n0, ↓reduceIte, c1, k1, hvN_e, F_History_forget, hl_e]
          rw [← en1]
        · have d1' : F_Md_copies c (nI (1 + m)) (0 : Int32) (40 : Int32) X = some N3 := d1
          simp only [F_Md_mark, hl_e]
          rw [← eX]
          simp only [ew, hbN_e, z, hw, ↓reduceIte, x1, hg_T, c1, m89, B_Md_mark_1, e1m, d1', hvN_e, hl_e]
          rw [← en2]
        · refine h.st (fun b _ _ => o b (by omega) (by omega) (by omega) (by omega) (by omega) (by omega) (by omega)) (fun b _ _ => o b (by omega) (by omega) (by omega) (by omega) (by omega) (by omega) (by omega)) (fun b _ _ => o b (by omega) (by omega) (by omega) (by omega) (by omega) (by omega) (by omega)) ?_ ?_ ?_ ?_ ?_ ?_
          · rw [en2]; show N3.2 = _; rw [d2.2, eX]; show N1.2 = _; rw [en1]; show Na.2 = _; exact k3
          · refine hb.carry hP ?_ ?_ ?_ ?_ ?_ c88
            · rw [o2 36 (by decide) (by decide), o1 36 (by decide)]; exact k4
            · rw [o2 36 (by decide) (by decide), o1 36 (by decide)]; exact k5
            · rw [o2 36 (by decide) (by decide), o1 36 (by decide)]; exact k6
            · intro i hi; rw [o2 (36 + 1) (by decide) (by decide), o1 (36 + 1) (by decide)]; exact k7 i hi
            · intro i hi; rw [o2 (36 + 2) (by decide) (by decide), o1 (36 + 2) (by decide), o2 (36 + 3) (by decide) (by decide), o1 (36 + 3) (by decide)]; exact k8 i hi
          · refine ⟨0, 0, by decide, by decide, ?_, ?_, ?_, fun i hi => absurd hi (Nat.not_lt_zero i)⟩
            · rw [o2 40 (by decide) (by decide), en1, wI_n (by decide), wI_s]; rfl
            · rw [o2 40 (by decide) (by decide), en1, wI_s]; rfl
            · rw [en2, wI_s]; rfl
          · exact a10.st hP (o _ (by decide) (by decide) (by decide) (by decide) (by decide) (by decide) (by decide)) (fun b _ _ => o b (by omega) (by omega) (by omega) (by omega) (by omega) (by omega) (by omega)) (fun j h1 _ => n88 j h1) (o _ (by decide) (by decide) (by decide) (by decide) (by decide) (by decide) (by decide))
          · exact a11.off (o _ (by decide) (by decide) (by decide) (by decide) (by decide) (by decide) (by decide)) (o _ (by decide) (by decide) (by decide) (by decide) (by decide) (by decide) (by decide)) (o76 _ (by decide) (by decide)) (o _ (by decide) (by decide) (by decide) (by decide) (by decide) (by decide) (by decide))
          · rw [o76 _ (by decide) (by decide)]; exact a12
      · have hl' : bt (N.1 1 9) m = false := by simpa using hl
        have n0 : ((N.1 1 9 >>> (nI m &&& 31)) &&& (1 : Int32)) = 0 := by rw [bt_shz (by omega)]; exact hl'
        have m89 : (hn_wI N 76 0 0).1 89 m = 0 := by
          rw [wI_o (by decide)]
          by_cases e : N.1 89 m = 0
          · exact e
          · exact absurd (q2.mpr e) hl
        refine ⟨0, N, _, ?_, ?_, hX⟩
        · simp only [F_Ps_mark, g1, g2, hw, n0, ↓reduceIte]
        · simp only [F_Md_mark, hl_e, ew, hbN_e, z, hw, ↓reduceIte, x1, hg_T, c1, m89]
  · have ew : F_Md_within c v (0 : Int32) (3 : Int32) (hn_wI N 76 0 0) = some (0, _) := mdW_n (k := 3) (by decide) hv
    refine ⟨0, N, _, ?_, ?_, hX⟩
    · rcases inR_n (by decide) hv with q | ⟨q1, q2⟩
      · simp only [F_Ps_mark, q, ↓reduceIte]
      · have q3 : ¬ v < (4 : Int32) := by
          rw [fa_le, nI_toInt (by decide)] at q2
          rw [fa_lt]
          have : (4 : Int32).toInt = 4 := by decide
          omega
        simp only [F_Ps_mark, q1, q3, ↓reduceIte]
    · simp only [F_Md_mark, hl_e, ew, hbN_e, ↓reduceIte]
