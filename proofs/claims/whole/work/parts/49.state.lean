/-! what changes: clear, see, breaks, exchange, undo -/
theorem RR.st {c : Nat} {ch : Nat → Int32} {law : Law} {N N' : hn} (h : RR c ch law N) (hc : ∀ b, 5 ≤ b → b ≤ 35 → N'.1 b = N.1 b) (h43 : ∀ b, 43 ≤ b → b ≤ 45 → N'.1 b = N.1 b) (h82 : ∀ b, 82 ≤ b → b ≤ 84 → N'.1 b = N.1 b) (hL : N'.2 = N.2)
    (hh : holdR 36 0 ch N') (hu : undoR ch N') (hm : marksR ch N') (ht : tapeR N') (hd : N'.1 76 23 = 0) : RR c ch law N' := by
  obtain ⟨a1, a2, a3, ⟨a4, a5, a6⟩, a7, -, -, -, -, -, a13⟩ := h
  have hcc : c = 5 ∨ c = 20 := a1
  refine ⟨a1, a2, a3, ⟨a4.off a1 (fun b _ _ => hc b (by omega) (by omega)), ⟨?_, ?_⟩, a6.off (h43 _ (by decide) (by decide)) (h43 _ (by decide) (by decide)) (h43 _ (by decide) (by decide))⟩, a7.off (h82 _ (by decide) (by decide)) (h82 _ (by decide) (by decide)) (h82 _ (by decide) (by decide)), hh, hu, hm, ht, hd, ?_⟩
  · unfold yrP; rw [hL]; exact a5.1
  · unfold atT; rw [hc 19 (by decide) (by decide), hc 34 (by decide) (by decide), hc (c + 13) (by omega) (by omega)]; exact a5.2
  · unfold wordsR; rw [hL]; exact a13
theorem undoS.map {P : Nat} (hP : P ≤ 12) {a b : Int32} {st st' : Nat → Int32} {hi lo hi' lo' : Nat} (h : undoS P a b st hi lo) (e1 : ∀ q, q ≤ 12 → st' (lo' + q) = st (lo + q)) (e2 : ∀ q, q ≤ 12 → st' (hi' + q) = st (hi + q)) : undoS P a b st' hi' lo' := by
  obtain ⟨x, x1, x2, q | ⟨y, y1, y2, y3, y4, y5⟩⟩ := h
  · obtain ⟨q1, q2, q3⟩ := q
    refine ⟨x, x1, x2, Or.inl ⟨q1, ?_, ?_⟩⟩
    · intro p hp; rw [e1 p (by omega), e2 p (by omega)]; exact q2 p hp
    · rw [e1 12 (by omega), e2 12 (by omega)]; exact q3
  · refine ⟨x, x1, x2, Or.inr ⟨y, y1, y2, y3, ?_, ?_⟩⟩
    · intro p hp; rw [e1 p (by omega), e2 y (by omega), e2 x (by omega), e2 p (by omega)]; exact y4 p hp
    · rw [e1 12 (by omega), e2 12 (by omega)]; exact y5
theorem undoR.st {ch : Nat → Int32} (hP : nP ch ≤ 12) {N N' : hn} (h : undoR ch N) (h40 : N'.1 40 = N.1 40) (h41 : N'.1 41 = N.1 41) (h42 : N'.1 42 = N.1 42) (h76 : N'.1 76 21 = N.1 76 21) (h88 : ∀ j, (j ≤ 12 ∨ 200 ≤ j) → N'.1 88 j = N.1 88 j) : undoR ch N' := by
  obtain ⟨n, nx, a1, a2, a3, a4, a5, a6⟩ := h
  refine ⟨n, nx, a1, a2, by rw [h40]; exact a3, by rw [h40]; exact a4, by rw [h76]; exact a5, ?_⟩
  intro i hi
  rw [h41, h42]
  refine (a6 i hi).map hP (fun q hq => h88 _ (by omega)) (fun q hq => h88 _ ?_)
  by_cases e : i + 1 = n
  · rw [if_pos e]; omega
  · rw [if_neg e]; omega
theorem holdR.st {v base : Nat} {ch : Nat → Int32} {N N' : hn} (h : holdR v base ch N) (hP : nP ch ≤ 12) (h0 : N'.1 v = N.1 v) (h1 : N'.1 (v + 1) = N.1 (v + 1)) (h2 : N'.1 (v + 2) = N.1 (v + 2)) (h3 : N'.1 (v + 3) = N.1 (v + 3)) (h88 : ∀ j, base ≤ j → j < base + 40 → N'.1 88 j = N.1 88 j) : holdR v base ch N' := by
  obtain ⟨a1, a2, a3, a4, a5, s, s1, s2, s3, s4⟩ := h
  unfold holdR
  rw [h0, h1, h2, h3, h88 (base + 12) (by omega) (by omega), h88 (base + 13) (by omega) (by omega)]
  refine ⟨a1, a2, a3, ?_, a5, s, s1, s2, s3, ?_⟩
  · intro p hp; rw [h88 _ (by omega) (by omega)]; exact a4 p hp
  · intro i hi; rw [h88 _ (by omega) (by omega), h88 _ (by omega) (by omega), h88 _ (by omega) (by omega)]; exact s4 i hi
theorem marksR.st {ch : Nat → Int32} (hP : nP ch ≤ 12) {N N' : hn} (h : marksR ch N) (h1 : N'.1 1 = N.1 1) (h60 : ∀ b, 60 ≤ b → b ≤ 75 → N'.1 b = N.1 b) (h88 : ∀ j, 40 ≤ j → j < 200 → N'.1 88 j = N.1 88 j) (h89 : N'.1 89 = N.1 89) : marksR ch N' := by
  intro m hm
  obtain ⟨a1, a2, a3⟩ := h m hm
  rw [h89, h1]
  refine ⟨a1, a2, fun b => (a3 b).st hP (h60 _ (by omega) (by omega)) (h60 _ (by omega) (by omega)) (h60 _ (by omega) (by omega)) (h60 _ (by omega) (by omega)) (fun j h1 h2 => h88 j (by omega) (by omega))⟩
theorem a_clear {c : Nat} {ch : Nat → Int32} {law : Law} {N : hn} (h : RR c ch law N) : alike c ch law (F_Ps_clear c) (F_Md_clear c) N := by
  have hP := h.P.1
  obtain ⟨-, -, -, -, -, ⟨b1, b2, b3, b4, b5, -⟩, a9, a10, a11, a12, -⟩ := id h
  refine ⟨1, hn_wI N 36 2 0, hn_wI (hn_wI (hn_wI N 36 2 0) 76 0 0) 88 13 0, rfl, ?_, ?_⟩
  · simp only [F_Md_clear, hl_e, x_1000_13, hg_T, t_13]
  · have o : ∀ b, b ≠ 36 → b ≠ 76 → b ≠ 88 → (hn_wI (hn_wI (hn_wI N 36 2 0) 76 0 0) 88 13 0).1 b = N.1 b := fun b h1 h2 h3 => by rw [wI_o h3, wI_o h2, wI_o h1]
    have o36 : ∀ k, k ≠ 2 → (hn_wI (hn_wI (hn_wI N 36 2 0) 76 0 0) 88 13 0).1 36 k = N.1 36 k := fun k hk => by rw [wI_o (by decide), wI_o (by decide), wI_n hk]
    have o76 : ∀ k, k ≠ 0 → (hn_wI (hn_wI (hn_wI N 36 2 0) 76 0 0) 88 13 0).1 76 k = N.1 76 k := fun k hk => by rw [wI_o (by decide), wI_n hk, wI_o (by decide)]
    have o88 : ∀ k, k ≠ 13 → (hn_wI (hn_wI (hn_wI N 36 2 0) 76 0 0) 88 13 0).1 88 k = N.1 88 k := fun k hk => by rw [wI_n hk, wI_o (by decide), wI_o (by decide)]
    refine h.st (fun b _ _ => o b (by omega) (by omega) (by omega)) (fun b _ _ => o b (by omega) (by omega) (by omega)) (fun b _ _ => o b (by omega) (by omega) (by omega)) rfl ?_ ?_ ?_ ?_ ?_
    · refine ⟨by rw [o36 5 (by decide)]; exact b1, by rw [o36 1 (by decide), o88 _ (by decide)]; exact b2, by rw [o88 _ (by decide)]; exact b3, ?_, by rw [o (36 + 1) (by decide) (by decide) (by decide)]; exact b5, 0, by decide, ?_, wI_s, fun i hi => absurd hi (Nat.not_lt_zero i)⟩
      · intro p hp; rw [o (36 + 1) (by decide) (by decide) (by decide), o88 _ (by omega)]; exact b4 p hp
      · rw [wI_o (by decide), wI_o (by decide), wI_s]; rfl
    · exact a9.st hP (o _ (by decide) (by decide) (by decide)) (o _ (by decide) (by decide) (by decide)) (o _ (by decide) (by decide) (by decide)) (o76 _ (by decide)) (fun j hj => o88 j (by omega))
    · exact a10.st hP (o _ (by decide) (by decide) (by decide)) (fun b _ _ => o b (by omega) (by omega) (by omega)) (fun j _ _ => o88 j (by omega)) (o _ (by decide) (by decide) (by decide))
    · exact a11.off (o _ (by decide) (by decide) (by decide)) (o _ (by decide) (by decide) (by decide)) (o76 _ (by decide)) (o _ (by decide) (by decide) (by decide))
    · rw [o76 _ (by decide)]; exact a12
theorem a_see {c : Nat} {ch : Nat → Int32} {law : Law} {N : hn} (h : RR c ch law N) (x y v : Int32) : alike c ch law (F_Ps_see c x y v) (F_Md_see c x y v) N := by
  have hP := h.P.1
  have hX := h.thr (v := 0)
  obtain ⟨hW, hD, p0, p1, -, -, -, -⟩ := h.F
  obtain ⟨-, -, -, -, m0, m1, -, -⟩ := hX.F
  have z : ¬ (1 : Int32) = 0 := by decide
  by_cases ho : inR (nW ch) x ∧ inR (nD ch) y
  · obtain ⟨⟨x, hx, rfl⟩, ⟨y, hy, rfl⟩⟩ := ho
    by_cases hv : inR 8 v
    · obtain ⟨k, hk, rfl⟩ := hv
      have ew : F_Md_within c (nI k) (0 : Int32) (7 : Int32) (hn_wI N 76 0 0) = some (1, _) := mdW_y (k := 7) (by decide) hk
      have g1 : ¬ nI k < 0 := nI_nn (by omega)
      have g2 : nI k ≤ (7 : Int32) := nI_le (b := 7) (by omega) (by decide)
      obtain ⟨-, -, -, -, -, ⟨b1, b2, b3, b4, b5, s, s1, s2, s3, s4⟩, a9, a10, a11, a12, -⟩ := id h
      have s3' : (hn_wI N 76 0 0).1 88 13 = nI s := by rw [wI_o (by decide)]; exact s3
      have e1 : (nI y * (8 : Int32)) + nI x = nI (8 * y + x) := by rw [show (8 : Int32) = nI 8 from rfl, nI_m, nI_a, Nat.mul_comm]
      by_cases hs : s = 8
      · have q1 : ¬ nI s < (8 : Int32) := nI_nlt (b := 8) (by omega) (by omega)
        have q2 : nI s = (8 : Int32) := by rw [hs]; rfl
        refine ⟨-1, N, _, ?_, ?_, hX⟩
        · simp only [F_Ps_see, psO_y (show nW ch < 2147483648 by omega) (show nD ch < 2147483648 by omega) hx hy p0 p1, hbN_e, z, ↓reduceIte, g1, g2, F_Ps_placeOf, F_Hold_keepSeen, s2, q1]
        · simp only [F_Md_see, hl_e, mdO_y (show nW ch < 2147483648 by omega) (show nD ch < 2147483648 by omega) hx hy m0 m1, hbN_e, z, ↓reduceIte, ew, seens_ok, s3', q2]
      · have q1 : nI s < (8 : Int32) := nI_lt (b := 8) (by omega) (by decide)
        have q2 : ¬ nI s = (8 : Int32) := fun e => hs ((nI_eqi (b := 8) (by omega) (by decide)).mp e)
        have x1 : hn_ix 8 (nI s) = true := ix_ok (by omega) (by decide)
        have c1 : (nI s).toNatClampNeg = s := nI_lt31 (by omega)
        have e0 : (14 : Int32) + ((3 : Int32) * nI s) = nI (14 + 3 * s) := by rw [show (14 : Int32) = nI 14 from rfl, show (3 : Int32) = nI 3 from rfl, nI_m, nI_a]
        have e2 : nI (14 + 3 * s) + (1 : Int32) = nI (15 + 3 * s) := by rw [show (1 : Int32) = nI 1 from rfl, nI_a]; congr 1; omega
        have e3 : nI (14 + 3 * s) + (2 : Int32) = nI (16 + 3 * s) := by rw [show (2 : Int32) = nI 2 from rfl, nI_a]; congr 1; omega
        have y0 : hn_ix 1000 (nI (14 + 3 * s)) = true := ix_ok (by omega) (by decide)
        have y1 : hn_ix 1000 (nI (15 + 3 * s)) = true := ix_ok (by omega) (by decide)
        have y2 : hn_ix 1000 (nI (16 + 3 * s)) = true := ix_ok (by omega) (by decide)
        have d0 : (nI (14 + 3 * s)).toNatClampNeg = 14 + 3 * s := nI_lt31 (by omega)
        have d1 : (nI (15 + 3 * s)).toNatClampNeg = 15 + 3 * s := nI_lt31 (by omega)
        have d2 : (nI (16 + 3 * s)).toNatClampNeg = 16 + 3 * s := nI_lt31 (by omega)
        obtain ⟨N1, en1⟩ : ∃ N1, N1 = hn_wI (hn_wI (hn_wI N (36 + 2) s (nI (8 * y + x))) (36 + 3) s (nI k)) 36 2 (nI (s + 1)) := ⟨_, rfl⟩
        obtain ⟨N2, en2⟩ : ∃ N2, N2 = hn_wI (hn_wI (hn_wI (hn_wI (hn_wI N1 76 0 0) 88 (14 + 3 * s) (nI x)) 88 (15 + 3 * s) (nI y)) 88 (16 + 3 * s) (nI k)) 88 13 (nI (s + 1)) := ⟨_, rfl⟩
        have o1 : ∀ b, b ≠ 36 → b ≠ 38 → b ≠ 39 → N1.1 b = N.1 b := fun b h1 h2 h3 => by rw [en1, wI_o h1, wI_o h3, wI_o h2]
        have o2 : ∀ b, b ≠ 76 → b ≠ 88 → N2.1 b = N1.1 b := fun b h1 h2 => by rw [en2, wI_o h2, wI_o h2, wI_o h2, wI_o h2, wI_o h1]
        have o : ∀ b, b ≠ 36 → b ≠ 38 → b ≠ 39 → b ≠ 76 → b ≠ 88 → N2.1 b = N.1 b := fun b h1 h2 h3 h4 h5 => (o2 b h4 h5).trans (o1 b h1 h2 h3)
        have o36 : ∀ j, j ≠ 2 → N2.1 36 j = N.1 36 j := fun j hj => by rw [o2 36 (by decide) (by decide), en1, wI_n hj, wI_o (by decide), wI_o (by decide)]
        have o76 : ∀ j, j ≠ 0 → N2.1 76 j = N.1 76 j := fun j hj => by rw [en2, wI_o (by decide), wI_o (by decide), wI_o (by decide), wI_o (by decide), wI_n hj, o1 76 (by decide) (by decide) (by decide)]
        have o88 : ∀ j, j ≠ 13 → j ≠ 14 + 3 * s → j ≠ 15 + 3 * s → j ≠ 16 + 3 * s → N2.1 88 j = N.1 88 j := fun j h1 h2 h3 h4 => by rw [en2, wI_n h1, wI_n h4, wI_n h3, wI_n h2, wI_o (by decide), o1 88 (by decide) (by decide) (by decide)]
        have n13 : N1.1 88 13 = nI s := by rw [o1 88 (by decide) (by decide) (by decide)]; exact s3
        have hX1m : N1.1 82 = N.1 82 := o1 82 (by decide) (by decide) (by decide)
        have k0 : (hn_wI N1 76 0 0).1 82 0 = nI (nW ch) := by rw [wI_o (by decide), hX1m]; have := m0; rwa [wI_o (by decide)] at this
        have k1 : (hn_wI N1 76 0 0).1 82 1 = nI (nD ch) := by rw [wI_o (by decide), hX1m]; have := m1; rwa [wI_o (by decide)] at this
        have k13 : (hn_wI N1 76 0 0).1 88 13 = nI s := by rw [wI_o (by decide)]; exact n13
        refine ⟨nI (s + 1), N1, N2, ?_, ?_, ?_⟩
        · have r1 : (hn_wI N (36 + 2) s (nI (8 * y + x))).1 36 2 = nI s := by rw [wI_o (by decide)]; exact s2
          have r2 : (hn_wI (hn_wI N (36 + 2) s (nI (8 * y + x))) (36 + 3) s (nI k)).1 36 2 = nI s := by rw [wI_o (by decide)]; exact r1
          have r3 : N1.1 36 2 = nI (s + 1) := by rw [en1, wI_s]
          simp only [F_Ps_see, psO_y (show nW ch < 2147483648 by omega) (show nD ch < 2147483648 by omega) hx hy p0 p1, hbN_e, z, ↓reduceIte, g1, g2, F_Ps_placeOf, F_Hold_keepSeen, s2, q1, x1, hg_T, hl_e, e1, c1, r1, r2, ← nI_succ]
          rw [← en1, r3]
        · have r4 : (hn_wI (hn_wI (hn_wI (hn_wI N1 76 0 0) 88 (14 + 3 * s) (nI x)) 88 (15 + 3 * s) (nI y)) 88 (16 + 3 * s) (nI k)).1 88 13 = nI s := by
            rw [wI_n (by omega), wI_n (by omega), wI_n (by omega)]; exact k13
          have r5 : N2.1 88 13 = nI (s + 1) := by rw [en2, wI_s]
          have ew' : F_Md_within c (nI k) (0 : Int32) (7 : Int32) (hn_wI N1 76 0 0) = some (1, _) := mdW_y (k := 7) (by decide) hk
          simp only [F_Md_see, hl_e, mdO_y (show nW ch < 2147483648 by omega) (show nD ch < 2147483648 by omega) hx hy k0 k1, hbN_e, z, ↓reduceIte, ew', seens_ok, k13, q2, e0, e2, e3, y0, y1, y2, hg_T, d0, d1, d2, x_1000_13, t_13, r4, ← nI_succ]
          rw [← en2, r5]
        · refine h.st (fun b _ _ => o b (by omega) (by omega) (by omega) (by omega) (by omega)) (fun b _ _ => o b (by omega) (by omega) (by omega) (by omega) (by omega)) (fun b _ _ => o b (by omega) (by omega) (by omega) (by omega) (by omega)) (by rw [en2, en1]; rfl) ?_ ?_ ?_ ?_ ?_
          · refine ⟨by rw [o36 5 (by decide)]; exact b1, by rw [o36 1 (by decide), o88 _ (by omega) (by omega) (by omega) (by omega)]; exact b2, by rw [o88 _ (by omega) (by omega) (by omega) (by omega)]; exact b3, ?_, by rw [o (36 + 1) (by decide) (by decide) (by decide) (by decide) (by decide)]; exact b5, s + 1, by omega, ?_, ?_, ?_⟩
            · intro p hp; rw [o (36 + 1) (by decide) (by decide) (by decide) (by decide) (by decide), o88 _ (by omega) (by omega) (by omega) (by omega)]; exact b4 p hp
            · rw [o2 36 (by decide) (by decide), en1, wI_s]
            · rw [en2, wI_s]
            · intro i hi
              have f2 : ∀ j, N2.1 (36 + 2) j = if j = s then nI (8 * y + x) else N.1 (36 + 2) j := fun j => by
                rw [o2 38 (by decide) (by decide), en1, wI_o (by decide), wI_o (by decide), wI_i]; simp
              have f3 : ∀ j, N2.1 (36 + 3) j = if j = s then nI k else N.1 (36 + 3) j := fun j => by
                rw [o2 39 (by decide) (by decide), en1, wI_o (by decide), wI_i]
                by_cases e : j = s
                · simp [e]
                · simp only [e, and_false, ↓reduceIte]; rw [wI_n e]
              rw [f2, f3]
              by_cases e : i = s
              · subst e
                refine ⟨x, y, hx, hy, ?_, ?_, by rw [if_pos rfl], ?_⟩
                · rw [Nat.zero_add, en2, wI_n (by omega), wI_n (by omega), wI_n (by omega), wI_s]
                · rw [Nat.zero_add, en2, wI_n (by omega), wI_n (by omega), wI_s]
                · rw [if_pos rfl, Nat.zero_add, en2, wI_n (by omega), wI_s]
              · rw [if_neg e, if_neg e, o88 _ (by omega) (by omega) (by omega) (by omega), o88 _ (by omega) (by omega) (by omega) (by omega), o88 _ (by omega) (by omega) (by omega) (by omega)]
                exact s4 i (by omega)
          · exact a9.st hP (o _ (by decide) (by decide) (by decide) (by decide) (by decide)) (o _ (by decide) (by decide) (by decide) (by decide) (by decide)) (o _ (by decide) (by decide) (by decide) (by decide) (by decide)) (o76 _ (by decide)) (fun j hj => o88 j (by omega) (by omega) (by omega) (by omega))
          · exact a10.st hP (o _ (by decide) (by decide) (by decide) (by decide) (by decide)) (fun b _ _ => o b (by omega) (by omega) (by omega) (by omega) (by omega)) (fun j _ _ => o88 j (by omega) (by omega) (by omega) (by omega)) (o _ (by decide) (by decide) (by decide) (by decide) (by decide))
          · exact a11.off (o _ (by decide) (by decide) (by decide) (by decide) (by decide)) (o _ (by decide) (by decide) (by decide) (by decide) (by decide)) (o76 _ (by decide)) (o _ (by decide) (by decide) (by decide) (by decide) (by decide))
          · rw [o76 _ (by decide)]; exact a12
    · have ew : F_Md_within c v (0 : Int32) (7 : Int32) (hn_wI N 76 0 0) = some (0, _) := mdW_n (k := 7) (by decide) hv
      refine ⟨-1, N, _, ?_, ?_, hX⟩
      · rcases inR_n (by decide) hv with q | ⟨q1, q2⟩
        · simp only [F_Ps_see, psO_y (show nW ch < 2147483648 by omega) (show nD ch < 2147483648 by omega) hx hy p0 p1, hbN_e, z, ↓reduceIte, q]
        · have q3 : ¬ v ≤ (7 : Int32) := by
            rw [fa_le, nI_toInt (by decide)] at q2
            rw [fa_le]
            have : (7 : Int32).toInt = 7 := by decide
            omega
          simp only [F_Ps_see, psO_y (show nW ch < 2147483648 by omega) (show nD ch < 2147483648 by omega) hx hy p0 p1, hbN_e, z, ↓reduceIte, q1, q3]
      · simp only [F_Md_see, hl_e, mdO_y (show nW ch < 2147483648 by omega) (show nD ch < 2147483648 by omega) hx hy m0 m1, hbN_e, z, ↓reduceIte, ew]
  · refine ⟨-1, N, _, ?_, ?_, hX⟩
    · simp only [F_Ps_see, psO_n (show nW ch < 2147483648 by omega) (show nD ch < 2147483648 by omega) ho p0 p1, hbN_e, ↓reduceIte]
    · simp only [F_Md_see, hl_e, mdO_n (show nW ch < 2147483648 by omega) (show nD ch < 2147483648 by omega) ho m0 m1, hbN_e, ↓reduceIte]
