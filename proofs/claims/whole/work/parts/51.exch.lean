/-! what changes: exchange, undo -/
theorem swap_ok {c a b : Nat} (ha : a < 12) (hb : b < 12) {v0 : Nat} {N : hn} : F_Hold_swap c v0 (nI a) (nI b) N = some (hn_wI (hn_wI N (v0 + 1) a (N.1 (v0 + 1) b)) (v0 + 1) b (N.1 (v0 + 1) a)) := by
  have x1 : hn_ix 12 (nI a) = true := ix_ok ha (by decide)
  have c1 : (nI a).toNatClampNeg = a := nI_lt31 (by omega)
  have x2 : hn_ix 12 (nI b) = true := ix_ok hb (by decide)
  have c2 : (nI b).toNatClampNeg = b := nI_lt31 (by omega)
  simp only [F_Hold_swap, x1, x2, hg_T, c1, c2, hl_e]
theorem a_exchange {c : Nat} {ch : Nat → Int32} {law : Law} {N : hn} (h : RR c ch law N) (v w : Int32) : alike c ch law (F_Ps_exchange c v w) (F_Md_exchange c v w) N := by
  obtain ⟨hP, hG, -⟩ := h.P
  have hX := h.thr (v := 0)
  obtain ⟨-, -, -, -, x4, -, -, -⟩ := hX.P
  obtain ⟨b1, b2, b3, b4, b5⟩ := h.hold
  have z : ¬ (1 : Int32) = 0 := by decide
  by_cases hu : unl ch (N.1 88) v w
  · obtain ⟨a, b, ha, hb, rfl, rfl, hab⟩ := hu
    have hne : a ≠ b := fun e => hab (by rw [e])
    obtain ⟨-, -, -, -, -, -, ⟨n, nx, n1, n2, n3, n4, n5, n6⟩, -⟩ := id h
    obtain ⟨Na, ea⟩ : ∃ Na, Na = hn_wI (hn_wI N (36 + 1) a (N.1 88 b)) (36 + 1) b (N.1 88 a) := ⟨_, rfl⟩
    have oa : ∀ q, q ≠ 37 → Na.1 q = N.1 q := fun q hq => by rw [ea, wI_o hq, wI_o hq]
    have nt := note_ok (c := c) (a := nI a) (b := nI b) (N := Na) n1 n2 (by rw [oa 40 (by decide)]; exact n3) (by rw [oa 40 (by decide)]; exact n4)
    obtain ⟨N1, en1⟩ : ∃ N1, N1 = hn_wI (hn_wI (hn_wI (hn_wI Na 41 nx (nI a)) 42 nx (nI b)) 40 3 (nI ((nx + 1) % 20))) 40 2 (nI (min (n + 1) 20)) := ⟨_, rfl⟩
    rw [← en1] at nt
    have o1 : ∀ q, q ≠ 37 → q ≠ 40 → q ≠ 41 → q ≠ 42 → N1.1 q = N.1 q := fun q h1 h2 h3 h4 => by rw [en1, wI_o h2, wI_o h2, wI_o h4, wI_o h3, oa q h1]
    obtain ⟨X, eX⟩ : ∃ X, X = hn_wI N1 76 0 0 := ⟨_, rfl⟩
    have oX : ∀ q, q ≠ 76 → X.1 q = N1.1 q := fun q hq => by rw [eX, wI_o hq]
    have x21 : X.1 76 21 = nI n := by rw [eX, wI_n (by decide), o1 76 (by decide) (by decide) (by decide) (by decide)]; exact n5
    obtain ⟨N6, k1, k2, k3, k4, k5, k6⟩ := keeps_ok (c := c) n1 x21
    have x88 : X.1 88 = N.1 88 := by rw [oX 88 (by decide), o1 88 (by decide) (by decide) (by decide) (by decide)]
    rw [x88] at k6
    have x82 : X.1 82 4 = nI (nP ch) := by rw [oX 82 (by decide), o1 82 (by decide) (by decide) (by decide) (by decide)]; exact h.P.2.2.2.2.1
    have n6a : N6.1 88 a = N.1 88 a := by rw [k6, kp_lo n1 (by omega)]
    have n6b : N6.1 88 b = N.1 88 b := by rw [k6, kp_lo n1 (by omega)]
    obtain ⟨N2, en2⟩ : ∃ N2, N2 = hn_wI (hn_wI N6 88 a (N.1 88 b)) 88 b (N.1 88 a) := ⟨_, rfl⟩
    have n2k : ∀ j, 12 ≤ j → N2.1 88 j = kpS (N.1 88) n j := fun j hj => by rw [en2, wI_n (by omega), wI_n (by omega), k6]
    have n2o : ∀ p, p < nP ch → N2.1 88 p = if p = a then N.1 88 b else if p = b then N.1 88 a else N.1 88 p := by
      intro p hp
      by_cases e1 : p = b
      · subst e1
        rw [en2, wI_s, if_neg (Ne.symm hne), if_pos rfl]
      · rw [en2, wI_n e1]
        by_cases e2 : p = a
        · subst e2; rw [wI_s, if_pos rfl]
        · rw [wI_n e2, if_neg e2, if_neg e1, k6, kp_lo n1 (by omega)]
    have o2 : ∀ q, q ≠ 76 → q ≠ 88 → N2.1 q = N1.1 q := fun q h1 h2 => by rw [en2, wI_o h2, wI_o h2, k2 q h1 h2, oX q h1]
    have g37 : ∀ p, N1.1 (36 + 1) p = if p = b then N.1 88 a else if p = a then N.1 88 b else N.1 (36 + 1) p := by
      intro p
      rw [en1, wI_o (by decide), wI_o (by decide), wI_o (by decide), wI_o (by decide), ea]
      by_cases e1 : p = b
      · subst e1; rw [wI_s, if_pos rfl]
      · rw [wI_n e1, if_neg e1]
        by_cases e2 : p = a
        · subst e2; rw [wI_s, if_pos rfl]
        · rw [wI_n e2, if_neg e2]
    refine ⟨1, N1, N2, ?_, ?_, ?_⟩
    · simp only [F_Ps_exchange, ps_unl_y h ha hb hab, hbN_e, z, ↓reduceIte, swap_ok (show a < 12 by omega) (show b < 12 by omega), (b3 a ha).1, (b3 b hb).1, hvN_e]
      rw [← ea, nt, hvN_e]
    · have za : (0 : Int32) + nI a = nI a := Int32.zero_add _
      have zb : (0 : Int32) + nI b = nI b := Int32.zero_add _
      have y1 : hn_ix 1000 (nI a) = true := ix_ok (by omega) (by decide)
      have c1 : (nI a).toNatClampNeg = a := nI_lt31 (by omega)
      have y2 : hn_ix 1000 (nI b) = true := ix_ok (by omega) (by decide)
      have c2 : (nI b).toNatClampNeg = b := nI_lt31 (by omega)
      simp only [F_Md_exchange, hl_e]
      rw [← eX]
      simp only [md_unl_y hP x82 ha hb (by rw [x88]; exact hab), hbN_e, z, ↓reduceIte, k1, hvN_e, ownerOf_ok (show a < 1000 by omega), ownerOf_ok (show b < 1000 by omega), n6a, n6b, za, zb, y1, y2, hg_T, c1, c2]
      rw [← en2]
    · refine h.doing (a := nI a) (b := nI b) n1 n2 n6 (fun q _ h2 h3 h4 h5 h6 h7 => by rw [o2 q h6 h7, o1 q h2 h3 h4 h5]) ?_ ?_ ?_ ?_ ?_ ?_ (fun j hj => n2k j (by omega)) ?_ ?_ ?_ ?_ ?_ ?_ ?_
      · rw [en2]; show N6.2 = _; rw [k3, eX, en1, ea]; rfl
      · rw [o2 40 (by decide) (by decide), en1, wI_s]
      · rw [o2 40 (by decide) (by decide), en1, wI_n (by decide), wI_s]
      · rw [en2, wI_o (by decide), wI_o (by decide)]; exact k5
      · intro j; rw [o2 41 (by decide) (by decide), en1, wI_o (by decide), wI_o (by decide), wI_o (by decide), wI_i, oa 41 (by decide)]; simp
      · intro j; rw [o2 42 (by decide) (by decide), en1, wI_o (by decide), wI_o (by decide), wI_i, wI_o (by decide), oa 42 (by decide)]; simp
      · intro k h1 h2; rw [en2, wI_o (by decide), wI_o (by decide), k4 k h2, eX, wI_n h1, o1 76 (by decide) (by decide) (by decide) (by decide)]
      · refine ⟨a, ha, rfl, Or.inr ⟨b, hb, Ne.symm hne, rfl, ?_, ?_⟩⟩
        · intro q hq
          rw [n2k _ (by omega), kp_new n1 (by omega), Nat.zero_add, Nat.zero_add, Nat.zero_add, n2o b hb, n2o a ha, n2o q hq]
          by_cases e1 : q = a
          · subst e1; rw [if_pos rfl, if_neg (Ne.symm hne), if_pos rfl]
          · rw [if_neg e1]
            by_cases e2 : q = b
            · subst e2; rw [if_pos rfl, if_pos rfl]
            · rw [if_neg e2, if_neg e1, if_neg e2]
        · rw [n2k _ (by omega), kp_new n1 (by decide), n2k 12 (by omega), kp_lo n1 (by decide)]
      · intro k hk; rw [o2 36 (by decide) (by decide), o1 36 (by decide) (by decide) (by decide) (by decide)]
      · rw [o2 36 (by decide) (by decide), o1 36 (by decide) (by decide) (by decide) (by decide), n2k 12 (by omega), kp_lo n1 (by decide)]; exact b2
      · intro i h1 h2; rw [n2k 12 (by omega), kp_lo n1 (by decide)]; exact b5 i h1 h2
      · intro q hq
        rw [o2 (36 + 1) (by decide) (by decide), g37 q, n2o q hq]
        by_cases e1 : q = a
        · subst e1
          rw [if_neg hne, if_pos rfl, if_pos rfl]
          exact ⟨rfl, (b3 b hb).2⟩
        · by_cases e2 : q = b
          · have e3 := (b3 a ha).2
            simp only [e1, e2, ↓reduceIte, Ne.symm hne]
            exact ⟨trivial, e3⟩
          · simp only [e1, e2, ↓reduceIte]; exact b3 q hq
      · intro q h1 h2
        rw [o2 (36 + 1) (by decide) (by decide), g37 q, if_neg (by omega), if_neg (by omega)]; exact b4 q h1 h2
  · refine ⟨0, N, _, ?_, ?_, hX⟩
    · simp only [F_Ps_exchange, ps_unl_n h hu, hbN_e, ↓reduceIte]
    · simp only [F_Md_exchange, hl_e, md_unl_n hP x4 (by rw [wI_o (by decide)]; exact hu), hbN_e, ↓reduceIte]
theorem a_undo {c : Nat} {ch : Nat → Int32} {law : Law} {N : hn} (h : RR c ch law N) : alike c ch law (F_Ps_undo c) (F_Md_undo c) N := by
  obtain ⟨hP, hG, -⟩ := h.P
  have hX := h.thr (v := 0)
  obtain ⟨b1, b2, b3, b4, b5⟩ := h.hold
  have z : ¬ (1 : Int32) = 0 := by decide
  obtain ⟨-, -, -, -, -, ⟨-, -, -, -, -, s, s1, s2, s3, s4⟩, ⟨n, nx, n1, n2, n3, n4, n5, n6⟩, a10, a11, a12, -⟩ := id h
  have t5 : (hn_wI N 76 0 0).1 76 21 = nI n := by rw [wI_n (by decide)]; exact n5
  by_cases h0 : n = 0
  · have z0 : nI n = (0 : Int32) := by rw [h0]; rfl
    refine ⟨0, N, _, ?_, ?_, hX⟩
    · have zz : (0 : Int32) = 0 ∨ (0 : Int32) = 1 := Or.inl rfl
      simp only [F_Ps_undo, F_History_takeBack, n3, z0, ↓reduceIte, hbN_e, true_or, hg_T]
    · simp only [F_Md_undo, hl_e, t5, z0, ↓reduceIte]
  · have z0 : ¬ nI n = (0 : Int32) := nI_ne0 (by omega) (by omega)
    have ch1 := n6 (n - 1) (by omega)
    rw [show n - (n - 1) = 1 by omega, if_pos (by omega), show 5 + (n - 1) = 4 + n by omega] at ch1
    obtain ⟨r, er⟩ : ∃ r, r = (nx + 20 - 1) % 20 := ⟨_, rfl⟩
    rw [← er] at ch1
    have hr : r < 20 := by omega
    have en : nI n - (1 : Int32) = nI (n - 1) := nI_s (b := 1) (by omega)
    have ex : ((nI nx + (20 : Int32)) - (1 : Int32)) - ((nI nx + (20 : Int32)) - (1 : Int32)) / (20 : Int32) * (20 : Int32) = nI r := by
      have e1 : (nI nx + (20 : Int32)) - (1 : Int32) = nI (nx + 20 - 1) := by
        rw [show (20 : Int32) = nI 20 from rfl, nI_a]; exact nI_s (b := 1) (by omega)
      rw [e1, er]; exact nI_r (b := 20) (by omega) (by decide)
    obtain ⟨Nb, eb⟩ : ∃ Nb, Nb = hn_wI (hn_wI N 40 2 (nI (n - 1))) 40 3 (nI r) := ⟨_, rfl⟩
    have ob : ∀ q, q ≠ 40 → Nb.1 q = N.1 q := fun q hq => by rw [eb, wI_o hq, wI_o hq]
    have k43 : (hn_wI N 40 2 (nI (n - 1))).1 40 3 = nI nx := by rw [wI_n (by decide)]; exact n4
    have kb3 : Nb.1 40 3 = nI r := by rw [eb, wI_s]
    have x1 : hn_ix 20 (nI r) = true := ix_ok hr (by decide)
    have c1 : (nI r).toNatClampNeg = r := nI_lt31 (by omega)
    have k41 : Nb.1 41 = N.1 41 := ob 41 (by decide)
    have k42 : Nb.1 42 = N.1 42 := ob 42 (by decide)
    -- the class's new owners and broken are those of the last snapshot
    have cls : ∃ N1, F_Ps_undo c N = some (1, N1) ∧ (∀ q, q ≠ 36 → q ≠ 37 → q ≠ 40 → N1.1 q = N.1 q) ∧ N1.2 = N.2 ∧ N1.1 40 2 = nI (n - 1) ∧ N1.1 40 3 = nI r ∧ (∀ k, k ≠ 1 → N1.1 36 k = N.1 36 k) ∧ N1.1 36 1 = N.1 88 (40 * (4 + n) + 12) ∧ (∀ p, p < nP ch → N1.1 (36 + 1) p = N.1 88 (40 * (4 + n) + p) ∧ ∃ o, o < nG ch ∧ N.1 88 (40 * (4 + n) + p) = nI o) ∧ (∀ p, nP ch ≤ p → p < 12 → N1.1 (36 + 1) p = -1) ∧ (∀ i, nP ch ≤ i → i < 32 → bt (N.1 88 (40 * (4 + n) + 12)) i = false) := by
      have zz : (1 : Int32) = 0 ∨ (1 : Int32) = 1 := Or.inr rfl
      obtain ⟨x, hx, ea, q | ⟨y, hy, hyx, eyb, q1, q2⟩⟩ := ch1
      · obtain ⟨q0, q1, q2⟩ := q
        simp only [Nat.zero_add] at q1 q2
        have kb : Nb.1 36 1 = N.1 88 12 := by rw [ob 36 (by decide)]; exact b2
        refine ⟨hn_wI Nb 36 1 (N.1 88 12 ^^^ ((1 : Int32) <<< (nI x &&& 31))), ?_, ?_, ?_, ?_, ?_, ?_, ?_, ?_, ?_, ?_⟩
        · simp only [F_Ps_undo, F_History_takeBack, n3, z0, ↓reduceIte, hl_e, en, k43, ex]
          rw [← eb]
          simp only [kb3, x1, hg_T, c1, k41, k42, ea, q0, ↓reduceIte, F_Hold_turn, hl_e, kb, hvN_e, hbN_e, or_true, hg_T]
        · intro q h1 h2 h3; rw [wI_o h1, ob q h3]
        · show Nb.2 = _; rw [eb]; rfl
        · rw [wI_o (by decide), eb, wI_n (by decide), wI_s]
        · rw [wI_o (by decide)]; exact kb3
        · intro k hk; rw [wI_n hk, ob 36 (by decide)]
        · rw [wI_s]; exact q2.symm
        · intro p hp; rw [wI_o (by decide), ob (36 + 1) (by decide), q1 p hp]; exact b3 p hp
        · intro p h1 h2; rw [wI_o (by decide), ob (36 + 1) (by decide)]; exact b4 p h1 h2
        · intro i h1 h2; rw [q2, bt_flip (by omega) h2, b5 i h1 h2]; simp; omega
      · simp only [Nat.zero_add] at q1 q2
        have nm : ¬ nI y = (-1 : Int32) := nI_nm (by omega)
        have ox : Nb.1 (36 + 1) x = N.1 88 x := by rw [ob (36 + 1) (by decide)]; exact (b3 x hx).1
        have oy : Nb.1 (36 + 1) y = N.1 88 y := by rw [ob (36 + 1) (by decide)]; exact (b3 y hy).1
        have g37 : ∀ p, (hn_wI (hn_wI Nb (36 + 1) x (N.1 88 y)) (36 + 1) y (N.1 88 x)).1 (36 + 1) p = if p = x then N.1 88 y else if p = y then N.1 88 x else N.1 (36 + 1) p := by
          intro p
          by_cases e1 : p = y
          · subst e1; rw [wI_s, if_neg hyx, if_pos rfl]
          · rw [wI_n e1]
            by_cases e2 : p = x
            · subst e2; rw [wI_s, if_pos rfl]
            · rw [wI_n e2, if_neg e2, if_neg e1, ob (36 + 1) (by decide)]
        refine ⟨hn_wI (hn_wI Nb (36 + 1) x (N.1 88 y)) (36 + 1) y (N.1 88 x), ?_, ?_, ?_, ?_, ?_, ?_, ?_, ?_, ?_, ?_⟩
        · simp only [F_Ps_undo, F_History_takeBack, n3, z0, ↓reduceIte, hl_e, en, k43, ex]
          rw [← eb]
          simp only [kb3, x1, hg_T, c1, k41, k42, ea, eyb, nm, ↓reduceIte, swap_ok (show x < 12 by omega) (show y < 12 by omega), ox, oy, hvN_e, hbN_e, or_true, hg_T]
        · intro q h1 h2 h3; rw [wI_o h2, wI_o h2, ob q h3]
        · show Nb.2 = _; rw [eb]; rfl
        · rw [wI_o (by decide), wI_o (by decide), eb, wI_n (by decide), wI_s]
        · rw [wI_o (by decide), wI_o (by decide)]; exact kb3
        · intro k hk; rw [wI_o (by decide), wI_o (by decide), ob 36 (by decide)]
        · rw [wI_o (by decide), wI_o (by decide), ob 36 (by decide), q2]; exact b2
        · intro p hp
          rw [g37 p, q1 p hp]
          by_cases e1 : p = x
          · rw [if_pos e1, if_pos e1]; exact ⟨rfl, (b3 y hy).2⟩
          · rw [if_neg e1, if_neg e1]
            by_cases e2 : p = y
            · rw [if_pos e2, if_pos e2]; exact ⟨rfl, (b3 x hx).2⟩
            · rw [if_neg e2, if_neg e2]; exact b3 p hp
        · intro p h1 h2; rw [g37 p, if_neg (by omega), if_neg (by omega)]; exact b4 p h1 h2
        · intro i h1 h2; rw [q2]; exact b5 i h1 h2
    obtain ⟨N1, f1, f2, f3, f4, f5, f6, f7, f8, f9, f10⟩ := cls
    obtain ⟨X, eX⟩ : ∃ X, X = hn_wI (hn_wI N1 76 0 0) 76 21 (nI (n - 1)) := ⟨_, rfl⟩
    have oX : ∀ q, q ≠ 76 → X.1 q = N1.1 q := fun q hq => by rw [eX, wI_o hq, wI_o hq]
    have x21 : X.1 76 21 = nI (n - 1) := by rw [eX, wI_s]
    have u21 : (hn_wI N1 76 0 0).1 76 21 = nI n := by rw [wI_n (by decide), f2 76 (by decide) (by decide) (by decide)]; exact n5
    have x88 : X.1 88 = N.1 88 := by rw [oX 88 (by decide), f2 88 (by decide) (by decide) (by decide)]
    obtain ⟨N2, g1, g2, g3⟩ := copies_ok (c := c) (a := 5 + (n - 1)) (b := 0) (m := 13) (by omega) (by omega) (by omega) (by omega) (N := X)
    rw [x88, show 5 + (n - 1) = 4 + n by omega] at g3
    have v88 : ∀ j, N2.1 88 j = if j < 13 then N.1 88 (40 * (4 + n) + j) else N.1 88 j := by
      intro j
      rw [g3 j]
      by_cases q : j < 13
      · rw [if_pos q, if_pos (by omega)]; exact congrArg _ (by omega)
      · rw [if_neg q, if_neg (by omega)]
    have o2 : ∀ q, q ≠ 76 → q ≠ 88 → N2.1 q = N1.1 q := fun q h1 h2 => by rw [g2.1 q h2, oX q h1]
    have o : ∀ q, q ≠ 36 → q ≠ 37 → q ≠ 40 → q ≠ 76 → q ≠ 88 → N2.1 q = N.1 q := fun q h1 h2 h3 h4 h5 => by rw [o2 q h4 h5, f2 q h1 h2 h3]
    have o76 : ∀ k, k ≠ 0 → k ≠ 21 → N2.1 76 k = N.1 76 k := fun k h1 h2 => by rw [g2.1 76 (by decide), eX, wI_n h2, wI_n h1, f2 76 (by decide) (by decide) (by decide)]
    refine ⟨1, N1, N2, f1, ?_, ?_⟩
    · have e5 : (5 : Int32) + nI (n - 1) = nI (5 + (n - 1)) := by rw [show (5 : Int32) = nI 5 from rfl, nI_a]
      have g1' : F_Md_copies c (nI (5 + (n - 1))) (0 : Int32) (13 : Int32) X = some N2 := g1
      simp only [F_Md_undo, hl_e, u21, z0, ↓reduceIte, en]
      rw [← eX]
      simp only [x21, e5, g1', hvN_e]
    · refine h.st (fun q _ _ => o q (by omega) (by omega) (by omega) (by omega) (by omega)) (fun q _ _ => o q (by omega) (by omega) (by omega) (by omega) (by omega)) (fun q _ _ => o q (by omega) (by omega) (by omega) (by omega) (by omega)) ?_ ?_ ?_ ?_ ?_ ?_
      · rw [g2.2, eX]; show N1.2 = _; exact f3
      · refine ⟨by rw [o2 36 (by decide) (by decide), f6 5 (by decide)]; exact b1, ?_, ?_, ?_, ?_, s, s1, ?_, ?_, ?_⟩
        · rw [o2 36 (by decide) (by decide), f7, Nat.zero_add, v88 12, if_pos (by decide)]
        · intro i h1 h2; rw [Nat.zero_add, v88 12, if_pos (by decide)]; exact f10 i h1 h2
        · intro p hp; rw [o2 (36 + 1) (by decide) (by decide), Nat.zero_add, v88 p, if_pos (by omega)]; exact f8 p hp
        · intro p h1 h2; rw [o2 (36 + 1) (by decide) (by decide)]; exact f9 p h1 h2
        · rw [o2 36 (by decide) (by decide), f6 2 (by decide)]; exact s2
        · rw [v88, if_neg (by decide)]; exact s3
        · intro i hi
          rw [o (36 + 2) (by decide) (by decide) (by decide) (by decide) (by decide), o (36 + 3) (by decide) (by decide) (by decide) (by decide) (by decide), v88, v88, v88, if_neg (by omega), if_neg (by omega), if_neg (by omega)]
          exact s4 i hi
      · refine ⟨n - 1, r, by omega, hr, ?_, ?_, ?_, ?_⟩
        · rw [o2 40 (by decide) (by decide)]; exact f4
        · rw [o2 40 (by decide) (by decide)]; exact f5
        · rw [g2.1 76 (by decide)]; exact x21
        · intro i hi
          have ix : (r + 20 - (n - 1 - i)) % 20 = (nx + 20 - (n - i)) % 20 := by omega
          rw [ix, o 41 (by decide) (by decide) (by decide) (by decide) (by decide), o 42 (by decide) (by decide) (by decide) (by decide) (by decide)]
          refine (n6 i (by omega)).map hP ?_ ?_
          · intro q hq; rw [v88, if_neg (by omega)]
          · intro q hq
            rw [if_neg (show ¬ i + 1 = n by omega)]
            by_cases e : i + 1 = n - 1
            · rw [if_pos e, Nat.zero_add, v88, if_pos (by omega)]; exact congrArg _ (by omega)
            · rw [if_neg e, v88, if_neg (by omega)]
      · exact a10.st hP (o _ (by decide) (by decide) (by decide) (by decide) (by decide)) (fun b _ _ => o b (by omega) (by omega) (by omega) (by omega) (by omega)) (fun j h1 _ => by rw [v88, if_neg (by omega)]) (o _ (by decide) (by decide) (by decide) (by decide) (by decide))
      · exact a11.off (o _ (by decide) (by decide) (by decide) (by decide) (by decide)) (o _ (by decide) (by decide) (by decide) (by decide) (by decide)) (o76 _ (by decide) (by decide)) (o _ (by decide) (by decide) (by decide) (by decide) (by decide))
      · rw [o76 _ (by decide) (by decide)]; exact a12
