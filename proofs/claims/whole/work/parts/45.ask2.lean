/-! answers: pane, count, spot, place -/
theorem md_bits {c x : Nat} (hx : x < 4096) {N : hn} : F_Md_bits c (nI x) N = some (nI (cntN x 12), N) := by
  have hb : ∀ k, k < 12 → bt (nI x) k = x.testBit k := by
    intro k hk
    have : bt (nI x) k = (BitVec.ofNat 32 x).getLsbD k := rfl
    rw [this, BitVec.getLsbD_ofNat]; simp; omega
  refine it_wp (B := B_Md_bits_1 c) (z := fun _ _ _ _ => none) (fun K k (s : Int32) => K (nI x) s (nI k) N) 12 (fun k s => s = nI (cntN x k))
    (Q := fun y => y = some (nI (cntN x 12), N)) ?_ ?_ (n := hN) (k := 0) (s := 0) (by omega) (hN_big (by omega)) rfl
  · intro K s hs
    have g : (12 : Int32) ≤ nI 12 := by decide
    simp only [B_Md_bits_1, g, ↓reduceIte, hs]
  · intro K k s hk hs
    right
    have g : ¬ (12 : Int32) ≤ nI k := nI_ge (b := 12) hk (by decide)
    refine ⟨s + (if bt (nI x) k then 1 else 0), ?_, ?_⟩
    · unfold cntN at hs ⊢
      rw [fb_ct_succ, hs, hb k hk]
      by_cases q : x.testBit k = true
      · simp only [q, ↓reduceIte]; exact (nI_succ _).symm
      · simp at q; simp [q]
    · simp only [B_Md_bits_1, g, ↓reduceIte, bt_sh0 (show k < 32 by omega), hl_e, ← nI_succ]
theorem small_nat {x : Int32} {P : Nat} (hP : P ≤ 12) (h : ∀ i, P ≤ i → i < 32 → bt x i = false) : ∃ m, m < 4096 ∧ x = nI m := by
  have e : x = bitsF (bt x) 12 := by
    apply b_ext
    intro i hi
    rw [bt_bitsF (by decide) hi]
    rcases Nat.lt_or_ge i 12 with q | q
    · simp [q]
    · rw [h i (by omega) hi]; simp
  rw [e]
  exact bitsF_lt (by decide)
theorem a_count {c : Nat} {ch : Nat → Int32} {law : Law} {N : hn} (h : RR c ch law N) (v : Int32) : alike c ch law (F_Ps_count c v) (F_Md_count c v) N := by
  have hX := h.thr (v := 0)
  obtain ⟨hP, -, -, -, m4, m3, p4, p3⟩ := h.P
  obtain ⟨-, -, p0, p1, m0, m1, -, -⟩ := h.F
  obtain ⟨b1, b2, b3, b4, b5⟩ := h.hold
  obtain ⟨y, hy, ey⟩ := small_nat hP b5
  obtain ⟨-, -, -, ⟨k1, -⟩, a7, ⟨-, -, -, -, -, s, s1, s2, s3, -⟩, ⟨n, nx, n1, n2, n3, n4, n5, -⟩, -, ⟨l, l1, l2, l3, -⟩, -, -⟩ := id h
  have o82 : (hn_wI N 76 0 0).1 82 = N.1 82 := wI_o (by decide)
  have o88 : (hn_wI N 76 0 0).1 88 = N.1 88 := wI_o (by decide)
  have o21 : (hn_wI N 76 0 0).1 76 21 = N.1 76 21 := wI_n (by decide)
  have o2 : (hn_wI N 76 0 0).1 76 2 = N.1 76 2 := wI_n (by decide)
  have i2 : N.1 c 2 = N.1 82 2 := by rw [k1.1 2 (by decide), a7.1 2 (by decide)]
  have s3' : N.1 88 13 = nI s := s3
  have pl : F_Ps_count c v N = (if v = (0 : Int32) then some ((N.1 c 0), N) else if v = (1 : Int32) then some ((N.1 c 1), N) else if v = (2 : Int32) then some ((N.1 c 3), N)
      else if v = (3 : Int32) then some ((N.1 c 4), N) else if v = (4 : Int32) then some (nI (cntN y 12), N)
      else if v = (5 : Int32) then some ((N.1 40 2), N) else if v = (6 : Int32) then some ((N.1 36 2), N) else if v = (7 : Int32) then some ((N.1 c 2), N) else if v = (8 : Int32) then some ((N.1 3 1), N) else some ((-1 : Int32), N)) := by
    simp only [F_Ps_count, b2, ey, bitCount_nat y hy, hbN_e]
  have ml : F_Md_count c v N = (if v = (0 : Int32) then some (N.1 82 0, hn_wI N 76 0 0) else if v = (1 : Int32) then some (N.1 82 1, hn_wI N 76 0 0) else if v = (2 : Int32) then some (N.1 82 3, hn_wI N 76 0 0)
      else if v = (3 : Int32) then some (N.1 82 4, hn_wI N 76 0 0) else if v = (4 : Int32) then some (nI (cntN y 12), hn_wI N 76 0 0) else if v = (5 : Int32) then some ((N.1 76 21), hn_wI N 76 0 0)
      else if v = (6 : Int32) then some (N.1 88 13, hn_wI N 76 0 0) else if v = (7 : Int32) then some (N.1 82 2, hn_wI N 76 0 0) else if v = (8 : Int32) then some ((N.1 76 2), hn_wI N 76 0 0) else some ((-1 : Int32), hn_wI N 76 0 0)) := by
    simp only [F_Md_count, hl_e, x_160_0, x_160_1, x_160_2, x_1000_12, hg_T, t_0, t_1, t_2, t_12, guilds_ok, panes_ok, seens_ok, hbN_e, o82, o88, o21, o2, ey, md_bits hy]
  unfold alike
  rw [pl]
  by_cases q0 : v = 0
  · refine ⟨nI (nW ch), N, _, ?_, ?_, hX⟩
    · rw [if_pos q0, p0]
    · rw [ml, if_pos q0, m0]
  by_cases q1 : v = 1
  · refine ⟨nI (nD ch), N, _, ?_, ?_, hX⟩
    · rw [if_neg q0, if_pos q1, p1]
    · rw [ml, if_neg q0, if_pos q1, m1]
  by_cases q2 : v = 2
  · refine ⟨nI (nG ch), N, _, ?_, ?_, hX⟩
    · rw [if_neg q0, if_neg q1, if_pos q2, p3]
    · rw [ml, if_neg q0, if_neg q1, if_pos q2, m3]
  by_cases q3 : v = 3
  · refine ⟨nI (nP ch), N, _, ?_, ?_, hX⟩
    · rw [if_neg q0, if_neg q1, if_neg q2, if_pos q3, p4]
    · rw [ml, if_neg q0, if_neg q1, if_neg q2, if_pos q3, m4]
  by_cases q4 : v = 4
  · refine ⟨nI (cntN y 12), N, _, ?_, ?_, hX⟩
    · rw [if_neg q0, if_neg q1, if_neg q2, if_neg q3, if_pos q4]
    · rw [ml, if_neg q0, if_neg q1, if_neg q2, if_neg q3, if_pos q4]
  by_cases q5 : v = 5
  · refine ⟨nI n, N, _, ?_, ?_, hX⟩
    · rw [if_neg q0, if_neg q1, if_neg q2, if_neg q3, if_neg q4, if_pos q5, n3]
    · rw [ml, if_neg q0, if_neg q1, if_neg q2, if_neg q3, if_neg q4, if_pos q5, n5]
  by_cases q6 : v = 6
  · refine ⟨nI s, N, _, ?_, ?_, hX⟩
    · rw [if_neg q0, if_neg q1, if_neg q2, if_neg q3, if_neg q4, if_neg q5, if_pos q6, s2]
    · rw [ml, if_neg q0, if_neg q1, if_neg q2, if_neg q3, if_neg q4, if_neg q5, if_pos q6, s3']
  by_cases q7 : v = 7
  · refine ⟨N.1 82 2, N, _, ?_, ?_, hX⟩
    · rw [if_neg q0, if_neg q1, if_neg q2, if_neg q3, if_neg q4, if_neg q5, if_neg q6, if_pos q7, i2]
    · rw [ml, if_neg q0, if_neg q1, if_neg q2, if_neg q3, if_neg q4, if_neg q5, if_neg q6, if_pos q7]
  by_cases q8 : v = 8
  · refine ⟨nI l, N, _, ?_, ?_, hX⟩
    · rw [if_neg q0, if_neg q1, if_neg q2, if_neg q3, if_neg q4, if_neg q5, if_neg q6, if_neg q7, if_pos q8, l2]
    · rw [ml, if_neg q0, if_neg q1, if_neg q2, if_neg q3, if_neg q4, if_neg q5, if_neg q6, if_neg q7, if_pos q8, l3]
  · refine ⟨-1, N, _, ?_, ?_, hX⟩
    · rw [if_neg q0, if_neg q1, if_neg q2, if_neg q3, if_neg q4, if_neg q5, if_neg q6, if_neg q7, if_neg q8]
    · rw [ml, if_neg q0, if_neg q1, if_neg q2, if_neg q3, if_neg q4, if_neg q5, if_neg q6, if_neg q7, if_neg q8]
theorem a_pane {c : Nat} {ch : Nat → Int32} {law : Law} {N : hn} (h : RR c ch law N) (v w : Int32) : alike c ch law (F_Ps_pane c v w) (F_Md_pane c v w) N := by
  obtain ⟨hP, -, -, -, m4, m3, p4, p3⟩ := h.P
  have hX := h.thr (v := 0)
  obtain ⟨-, -, -, -, x4, x3, -, -⟩ := hX.P
  obtain ⟨b1, b2, b3, b4, b5⟩ := h.hold
  have z : ¬ (1 : Int32) = 0 := by decide
  have o82 : (hn_wI N 76 0 0).1 82 = N.1 82 := wI_o (by decide)
  have o88 : (hn_wI N 76 0 0).1 88 = N.1 88 := wI_o (by decide)
  by_cases hv : inR (nP ch) v
  · obtain ⟨p, hp, rfl⟩ := hv
    have x1 : hn_ix 12 (nI p) = true := ix_ok (by omega) (by decide)
    have c1 : (nI p).toNatClampNeg = p := nI_lt31 (by omega)
    obtain ⟨-, -, -, ⟨k1, -⟩, a7, -⟩ := id h
    obtain ⟨r1, r2, r3⟩ := k1.2.1 p hp
    by_cases hw : inR 5 w
    · obtain ⟨k, hk, rfl⟩ := hw
      have ew : F_Md_within c (nI k) (0 : Int32) (4 : Int32) (hn_wI N 76 0 0) = some (1, _) := mdW_y (k := 4) (by decide) hk
      have : k = 0 ∨ k = 1 ∨ k = 2 ∨ k = 3 ∨ k = 4 := by omega
      have ml : F_Md_pane c (nI p) (nI k) N = (if nI k = (2 : Int32) then hbN (F_Md_ownerOf c (nI p) (hn_wI N 76 0 0)) fun r11 N10 => some (r11, N10) else (if nI k = (4 : Int32) then hbN (F_Md_isBroken c (nI p) (hn_wI N 76 0 0)) fun r9 N8 => (if r9 = 0 then
          some ((0 : Int32), N8) else some ((1 : Int32), N8)) else hbN (F_Md_paneOf c (nI p) (nI k) (hn_wI N 76 0 0)) fun r7 N6 => some (r7, N6))) := by
        simp only [F_Md_pane, hl_e, mdP_y (show nP ch < 2147483648 by omega) hp x4, hbN_e, z, ↓reduceIte, ew]
      have pl : F_Ps_pane c (nI p) (nI k) N = (if nI k = (0 : Int32) then some (N.1 (c + 4) p, N) else if nI k = (1 : Int32) then some (N.1 (c + 5) p, N) else if nI k = (2 : Int32) then some (N.1 (36 + 1) p, N) else if nI k = (3 : Int32) then some (N.1 (c + 7) p, N)
          else if nI k = (4 : Int32) then hbN (F_Hold_isBroken c 36 (nI p) N) fun r4 N3 => (if r4 = 0 then some ((0 : Int32), N3) else some ((1 : Int32), N3)) else some ((-1 : Int32), N)) := by
        simp only [F_Ps_pane, psP_y (show nP ch < 2147483648 by omega) hp p4, hbN_e, z, ↓reduceIte, x1, hg_T, c1]
      unfold alike
      rw [pl]
      rcases this with rfl | rfl | rfl | rfl | rfl
      · refine ⟨ch (17 + 4 * p), N, _, ?_, ?_, hX⟩
        · rw [if_pos (by decide), r1]
        · rw [ml, if_neg (by decide), if_neg (by decide), show nI 0 = (0 : Int32) from rfl, paneOf_0 (by omega), hbN_e, o82, a7.1 _ (by omega)]
      · refine ⟨ch (18 + 4 * p), N, _, ?_, ?_, hX⟩
        · rw [if_neg (by decide), if_pos (by decide), r2]
        · rw [ml, if_neg (by decide), if_neg (by decide), show nI 1 = (1 : Int32) from rfl, paneOf_1 (by omega), hbN_e, o82, a7.1 _ (by omega)]
      · refine ⟨N.1 88 p, N, _, ?_, ?_, hX⟩
        · rw [if_neg (by decide), if_neg (by decide), if_pos (by decide), (b3 p hp).1]
        · rw [ml, if_pos (by decide), ownerOf_ok (by omega), hbN_e, o88]
      · refine ⟨ch (20 + 4 * p), N, _, ?_, ?_, hX⟩
        · rw [if_neg (by decide), if_neg (by decide), if_neg (by decide), if_pos (by decide), r3]
        · rw [ml, if_neg (by decide), if_neg (by decide), show nI 3 = (3 : Int32) from rfl, paneOf_3 (by omega), hbN_e, o82, a7.1 _ (by omega)]
      · refine ⟨if bt (N.1 88 12) p then 1 else 0, N, _, ?_, ?_, hX⟩
        · rw [if_neg (by decide), if_neg (by decide), if_neg (by decide), if_neg (by decide), if_pos (by decide), psBk (by omega), hbN_e, b2]
          by_cases q : bt (N.1 88 12) p = true
          · simp only [q, ↓reduceIte, z]
          · simp only [q, Bool.false_eq_true, ↓reduceIte]
        · rw [ml, if_neg (by decide), if_pos (by decide), isBroken_ok (by omega), hbN_e, o88]
          by_cases q : bt (N.1 88 12) p = true
          · simp only [q, ↓reduceIte, z]
          · simp only [q, Bool.false_eq_true, ↓reduceIte]
    · have ew : F_Md_within c w (0 : Int32) (4 : Int32) (hn_wI N 76 0 0) = some (0, _) := mdW_n (k := 4) (by decide) hw
      have w0 : ¬ w = 0 := fun e => hw ⟨0, by decide, e⟩
      have w1 : ¬ w = 1 := fun e => hw ⟨1, by decide, e⟩
      have w2 : ¬ w = 2 := fun e => hw ⟨2, by decide, e⟩
      have w3 : ¬ w = 3 := fun e => hw ⟨3, by decide, e⟩
      have w4 : ¬ w = 4 := fun e => hw ⟨4, by decide, e⟩
      refine ⟨-1, N, _, ?_, ?_, hX⟩
      · simp only [F_Ps_pane, psP_y (show nP ch < 2147483648 by omega) hp p4, hbN_e, z, ↓reduceIte, w0, w1, w2, w3, w4]
      · simp only [F_Md_pane, hl_e, mdP_y (show nP ch < 2147483648 by omega) hp x4, hbN_e, z, ↓reduceIte, ew]
  · refine ⟨-1, N, _, ?_, ?_, hX⟩
    · simp only [F_Ps_pane, psP_n (show nP ch < 2147483648 by omega) hv p4, hbN_e, ↓reduceIte]
    · simp only [F_Md_pane, hl_e, mdP_n (show nP ch < 2147483648 by omega) hv x4, hbN_e, ↓reduceIte]
theorem time_eq {w d : Nat} : (nI w * (24 : Int32)) + nI d = nI (w * 24 + d) := by rw [show (24 : Int32) = nI 24 from rfl, nI_m, nI_a]
/-- the class turns to a time -/
theorem RR.turn {c : Nat} {ch : Nat → Int32} {law : Law} {N : hn} (h : RR c ch law N) {t : Nat} (ht : t < 1248) : ∃ N', F_Light_turnTo c (nI t) N = some N' ∧ atT c ch law t N' ∧ RR c ch law N' ∧ offL c N N' := by
  obtain ⟨a1, a2, a3, ⟨a4, a5, a6⟩, -⟩ := id h
  obtain ⟨N', b1, b2, b3, b4⟩ := turnTo_ok a1 a2 a3 a4 a5 ht
  exact ⟨N', b1, b2, h.qP (offQ.ofL a1 b4) b3 (a6.offL a1 b4), b4⟩
/-- the reference finds the light of a time -/
theorem RR.find {c : Nat} {ch : Nat → Int32} {law : Law} {N : hn} (h : RR c ch law N) {w d : Nat} (hw : w < 52) (hd : d < 24) : ∃ N', F_Md_findLight c (nI w) (nI d) N = some N' ∧ RR c ch law N' ∧ offF N N' ∧ ∀ p, p < nP ch → N'.1 90 p = if bt (N.1 88 12) p then -1 else spF ch law (w * 24 + d) p := by
  obtain ⟨a1, a2, a3, -, a7, -⟩ := id h
  obtain ⟨N', b1, b2, b3⟩ := findLight_ok (c := c) a2 a3 a7 h.own (t := w * 24 + d) (by omega)
  rw [show (w * 24 + d) / 24 = w by omega, show (w * 24 + d) % 24 = d by omega] at b1
  refine ⟨N', b1, h.qM (offM.ofF b2), b2, ?_⟩
  intro p hp
  rw [b3 p hp, litB_eq h]
  show (if (!bt (N.1 88 12) p) = true then spF ch law (w * 24 + d) p else -1) = _
  cases bt (N.1 88 12) p <;> rfl
theorem a_spot {c : Nat} {ch : Nat → Int32} {law : Law} {N : hn} (h : RR c ch law N) (v w d : Int32) : alike c ch law (F_Ps_spot c v w d) (F_Md_spot c v w d) N := by
  obtain ⟨hP, -, -, -, m4, m3, p4, p3⟩ := h.P
  have hX := h.thr (v := 0)
  obtain ⟨-, -, -, -, x4, x3, -, -⟩ := hX.P
  obtain ⟨b1, b2, b3, b4, b5⟩ := h.hold
  have z : ¬ (1 : Int32) = 0 := by decide
  by_cases hv : inR (nP ch) v
  · obtain ⟨p, hp, rfl⟩ := hv
    have x1 : hn_ix 12 (nI p) = true := ix_ok (by omega) (by decide)
    have c1 : (nI p).toNatClampNeg = p := nI_lt31 (by omega)
    by_cases ht : inR 52 w ∧ inR 24 d
    · obtain ⟨⟨w, hw, rfl⟩, ⟨d, hd, rfl⟩⟩ := ht
      by_cases hb : bt (N.1 88 12) p = true
      · obtain ⟨N2, f1, f2, f3, f4⟩ := hX.find hw hd
        refine ⟨-1, N, N2, ?_, ?_, f2⟩
        · have hb' : bt (N.1 36 1) p = true := by rw [b2]; exact hb
          simp only [F_Ps_spot, psP_y (show nP ch < 2147483648 by omega) hp p4, hbN_e, z, ↓reduceIte, psT_y hw hd, psBk (show p < 32 by omega), hb']
        · simp only [F_Md_spot, hl_e, mdP_y (show nP ch < 2147483648 by omega) hp x4, hbN_e, z, ↓reduceIte, mdT_y hw hd, f1, hvN_e, x1, hg_T, c1]
          rw [f4 p hp, wI_o (by decide), if_pos hb]
      · have hb' : bt (N.1 88 12) p = false := by simpa using hb
        obtain ⟨N1, t1, t2, t3, t4⟩ := h.turn (t := w * 24 + d) (by omega)
        have hX1 := t3.thr (v := 0)
        obtain ⟨N2, f1, f2, f3, f4⟩ := hX1.find hw hd
        have hcc : c = 5 ∨ c = 20 := h.1
        have o88 : N1.1 88 = N.1 88 := t4.1 88 (by decide) (by decide) (by omega) (by omega)
        obtain ⟨-, -, -, -, y4, -, -, -⟩ := hX1.P
        refine ⟨spF ch law (w * 24 + d) p, N1, N2, ?_, ?_, f2⟩
        · have hb2 : bt (N.1 36 1) p = false := by rw [b2]; exact hb'
          simp only [F_Ps_spot, psP_y (show nP ch < 2147483648 by omega) hp p4, hbN_e, z, ↓reduceIte, psT_y hw hd, psBk (show p < 32 by omega), hb2, Bool.false_eq_true, F_Ps_timeOf, time_eq, t1, hvN_e, x1, hg_T, c1, t2.2.2.2 p (by omega)]
        · simp only [F_Md_spot, hl_e, mdP_y (show nP ch < 2147483648 by omega) hp y4, hbN_e, z, ↓reduceIte, mdT_y hw hd, f1, hvN_e, x1, hg_T, c1]
          rw [f4 p hp, wI_o (by decide), o88, hb']; rfl
    · refine ⟨-1, N, _, ?_, ?_, hX⟩
      · simp only [F_Ps_spot, psP_y (show nP ch < 2147483648 by omega) hp p4, hbN_e, z, ↓reduceIte, psT_n ht]
      · simp only [F_Md_spot, hl_e, mdP_y (show nP ch < 2147483648 by omega) hp x4, hbN_e, z, ↓reduceIte, mdT_n ht]
  · refine ⟨-1, N, _, ?_, ?_, hX⟩
    · simp only [F_Ps_spot, psP_n (show nP ch < 2147483648 by omega) hv p4, hbN_e, ↓reduceIte]
    · simp only [F_Md_spot, hl_e, mdP_n (show nP ch < 2147483648 by omega) hv x4, hbN_e, ↓reduceIte]
/-- on a place at a time: who falls there, for the class -/
def onS (ch : Nat → Int32) (law : Law) (st : Nat → Int32) (t : Nat) (place : Int32) : Nat → Bool := fun p => decide (spF ch law t p = place) && !bt (st 12) p
theorem on_ps {c : Nat} {ch : Nat → Int32} {law : Law} {N : hn} (h : RR c ch law N) {t k : Nat} (hk : k < 64) (ha : atT c ch law t N) {x : Int32} (hx : ∀ i, i < 32 → bt x i = (decide (i < nP ch) && !bt (N.1 88 12) i)) :
    F_Light_panesOn c (nI k) x N = some (bitsF (onS ch law (N.1 88) t (nI k)) 12, N) := by
  rw [panesOn_ok]
  congr 2
  apply bitsF_cong
  intro i hi
  rw [ha.2.2.2 i hi, hx i (by omega)]
  unfold onS
  by_cases q : i < nP ch
  · simp [q]
  · rw [spF_out (by omega)]
    have : ¬ (-1 : Int32) = nI k := fun e => nI_nm (show k < 2147483648 by omega) e.symm
    simp [this]
theorem on_md {c : Nat} {ch : Nat → Int32} {law : Law} {N N' : hn} (h : RR c ch law N) {t k : Nat} (hk : k < 64) (hf : ∀ p, p < nP ch → N'.1 90 p = if bt (N.1 88 12) p then -1 else spF ch law t p) :
    ∀ p, p < nP ch → decide (N'.1 90 p = nI k) = onS ch law (N.1 88) t (nI k) p := by
  intro p hp
  rw [hf p hp]
  unfold onS
  have n1 : ¬ (-1 : Int32) = nI k := fun e => nI_nm (show k < 2147483648 by omega) e.symm
  by_cases q : bt (N.1 88 12) p = true
  · simp [q, n1]
  · have q' : bt (N.1 88 12) p = false := by simpa using q
    simp [q']
theorem on_out {ch : Nat → Int32} {law : Law} {st : Nat → Int32} {t k : Nat} (hk : k < 64) {p : Nat} (hp : nP ch ≤ p) : onS ch law st t (nI k) p = false := by
  unfold onS
  rw [spF_out hp]
  have : ¬ (-1 : Int32) = nI k := fun e => nI_nm (show k < 2147483648 by omega) e.symm
  simp [this]
def ownS (ch : Nat → Int32) (law : Law) (st : Nat → Int32) (t : Nat) (place : Int32) : Int32 := orF (fun p => (1 : Int32) <<< (st p &&& 31)) (onS ch law st t place) (nP ch)
def colS (ch : Nat → Int32) (law : Law) (st : Nat → Int32) (t : Nat) (place : Int32) : Int32 := orF (fun p => ch (20 + 4 * p)) (onS ch law st t place) (nP ch)
theorem own_ps {c : Nat} {ch : Nat → Int32} {law : Law} {N : hn} (h : RR c ch law N) {t k : Nat} (hk : k < 64) : F_Hold_ownersOf c 36 (bitsF (onS ch law (N.1 88) t (nI k)) 12) N = some (ownS ch law (N.1 88) t (nI k), N) := by
  obtain ⟨b1, b2, b3, b4, b5⟩ := h.hold
  have hP := h.P.1
  rw [ownersOf_ok isHold_36 hP b1]
  congr 2
  apply orF_cong
  · intro i hi; rw [bt_bitsF (by decide) (by omega)]; simp; omega
  · intro i hi _; rw [(b3 i hi).1]
theorem col_ps {c : Nat} {ch : Nat → Int32} {law : Law} {N : hn} (h : RR c ch law N) {t k : Nat} (hk : k < 64) : F_Chapel_colourOf c c (bitsF (onS ch law (N.1 88) t (nI k)) 12) N = some (colS ch law (N.1 88) t (nI k), N) := by
  have hP := h.P.1
  obtain ⟨-, -, -, ⟨k1, -⟩, -⟩ := id h
  rw [colourOf_ok]
  congr 2
  rw [orF_ext (m := nP ch) hP (fun i h1 h2 => by rw [bt_bitsF (by decide) (by omega), on_out hk h1]; simp)]
  apply orF_cong
  · intro i hi; rw [bt_bitsF (by decide) (by omega)]; simp; omega
  · intro i hi _; rw [(k1.2.1 i hi).2.2]
theorem own_md {c : Nat} {ch : Nat → Int32} {law : Law} {N N' : hn} (h : RR c ch law N) (h' : RR c ch law N') (ho : offF N N') {t k : Nat} (hk : k < 64) (hf : ∀ p, p < nP ch → N'.1 90 p = if bt (N.1 88 12) p then -1 else spF ch law t p) :
    F_Md_lightAt c (nI k) (0 : Int32) N' = some (ownS ch law (N.1 88) t (nI k), N') ∧ F_Md_lightAt c (nI k) (1 : Int32) N' = some (colS ch law (N.1 88) t (nI k), N') ∧ F_Md_lightAt c (nI k) (2 : Int32) N' = some (nI (fb_ct (onS ch law (N.1 88) t (nI k)) (nP ch)), N') := by
  obtain ⟨hP, -, -, -, m4, -⟩ := h'.P
  have e := on_md h hk hf
  have o88 : N'.1 88 = N.1 88 := ho.1 88 (by decide) (by decide) (by decide)
  obtain ⟨-, -, -, -, a7, -⟩ := id h'
  have z1 : ¬ (1 : Int32) = 0 := by decide
  have z2 : ¬ (2 : Int32) = 0 := by decide
  have z3 : ¬ (2 : Int32) = 1 := by decide
  refine ⟨?_, ?_, ?_⟩
  · rw [lightAt_ok hP m4]
    simp only [↓reduceIte, o88]
    congr 2
    exact orF_cong e (fun _ _ _ => rfl)
  · rw [lightAt_ok hP m4]
    simp only [z1, ↓reduceIte]
    congr 2
    exact orF_cong e (fun i hi _ => a7.1 _ (by omega))
  · rw [lightAt_ok hP m4]
    simp only [z2, z3, ↓reduceIte]
    congr 3
    exact fb_ct_cong e
theorem a_place {c : Nat} {ch : Nat → Int32} {law : Law} {N : hn} (h : RR c ch law N) (x y w d v : Int32) : alike c ch law (F_Ps_place c x y w d v) (F_Md_place c x y w d v) N := by
  have hX := h.thr (v := 0)
  obtain ⟨hW, hD, p0, p1, -, -, -, -⟩ := h.F
  obtain ⟨-, -, -, -, m0, m1, -, -⟩ := hX.F
  have hP := h.P.1
  have z : ¬ (1 : Int32) = 0 := by decide
  have hcc : c = 5 ∨ c = 20 := h.1
  by_cases ho : inR (nW ch) x ∧ inR (nD ch) y
  · obtain ⟨⟨x, hx, rfl⟩, ⟨y, hy, rfl⟩⟩ := ho
    by_cases ht : inR 52 w ∧ inR 24 d
    · obtain ⟨⟨w, hw, rfl⟩, ⟨d, hd, rfl⟩⟩ := ht
      obtain ⟨N1, t1, t2, t3, t4⟩ := h.turn (t := w * 24 + d) (by omega)
      obtain ⟨l, l1, l2⟩ := lit_ok t3
      have hX1 := t3.thr (v := 0)
      obtain ⟨-, -, -, -, n0, n1, -, -⟩ := hX1.F
      have e1 : (nI y * (8 : Int32)) + nI x = nI (y * 8 + x) := by rw [show (8 : Int32) = nI 8 from rfl, nI_m, nI_a]
      have e2 : ((8 : Int32) * nI y) + nI x = nI (y * 8 + x) := by rw [show (8 : Int32) = nI 8 from rfl, nI_m, nI_a, Nat.mul_comm]
      have hk : y * 8 + x < 64 := by omega
      obtain ⟨N2, f1, f2, f3, f4⟩ := hX1.find hw hd
      obtain ⟨g0, g1, g2⟩ := own_md hX1 f2 f3 hk f4
      have o88 : (hn_wI N1 76 0 0).1 88 = N1.1 88 := wI_o (by decide)
      rw [o88] at g0 g1 g2
      have lead : ∀ v, F_Ps_place c (nI x) (nI y) (nI w) (nI d) v N = (if v = (0 : Int32) then some (ownS ch law (N1.1 88) (w * 24 + d) (nI (y * 8 + x)), N1) else if v = (1 : Int32) then some (colS ch law (N1.1 88) (w * 24 + d) (nI (y * 8 + x)), N1) else if v = (2 : Int32) then some (nI (fb_ct (onS ch law (N1.1 88) (w * 24 + d) (nI (y * 8 + x))) 12), N1) else some ((-1 : Int32), N1)) := by
        intro v
        simp only [F_Ps_place, psO_y (show nW ch < 2147483648 by omega) (show nD ch < 2147483648 by omega) hx hy p0 p1, hbN_e, z, ↓reduceIte, psT_y hw hd, F_Ps_timeOf, time_eq, t1, hvN_e, F_Ps_placeOf, e1, l1, on_ps t3 hk t2 l2, own_ps t3 hk, col_ps t3 hk, bitCount_ok]
      by_cases hv : inR 3 v
      · obtain ⟨k, hk3, rfl⟩ := hv
        have ew : F_Md_within c (nI k) (0 : Int32) (2 : Int32) (hn_wI N1 76 0 0) = some (1, _) := mdW_y (k := 2) (by decide) hk3
        have mlead : F_Md_place c (nI x) (nI y) (nI w) (nI d) (nI k) N1 = hbN (F_Md_lightAt c (nI (y * 8 + x)) (nI k) N2) fun r10 N9 => some (r10, N9) := by
          simp only [F_Md_place, hl_e, mdO_y (show nW ch < 2147483648 by omega) (show nD ch < 2147483648 by omega) hx hy n0 n1, hbN_e, z, ↓reduceIte, mdT_y hw hd, ew, f1, hvN_e, e2]
        have : k = 0 ∨ k = 1 ∨ k = 2 := by omega
        rcases this with rfl | rfl | rfl
        · refine ⟨ownS ch law (N1.1 88) (w * 24 + d) (nI (y * 8 + x)), N1, N2, ?_, ?_, f2⟩
          · rw [lead, if_pos (by decide)]
          · rw [mlead, show nI 0 = (0 : Int32) from rfl, g0, hbN_e]
        · refine ⟨colS ch law (N1.1 88) (w * 24 + d) (nI (y * 8 + x)), N1, N2, ?_, ?_, f2⟩
          · rw [lead, if_neg (by decide), if_pos (by decide)]
          · rw [mlead, show nI 1 = (1 : Int32) from rfl, g1, hbN_e]
        · refine ⟨nI (fb_ct (onS ch law (N1.1 88) (w * 24 + d) (nI (y * 8 + x))) 12), N1, N2, ?_, ?_, f2⟩
          · rw [lead, if_neg (by decide), if_neg (by decide), if_pos (by decide)]
          · rw [mlead, show nI 2 = (2 : Int32) from rfl, g2, hbN_e, ct_ext (m := nP ch) hP (fun i h1 _ => on_out hk h1)]
      · have ew : F_Md_within c v (0 : Int32) (2 : Int32) (hn_wI N1 76 0 0) = some (0, _) := mdW_n (k := 2) (by decide) hv
        have w0 : ¬ v = 0 := fun e => hv ⟨0, by decide, e⟩
        have w1 : ¬ v = 1 := fun e => hv ⟨1, by decide, e⟩
        have w2 : ¬ v = 2 := fun e => hv ⟨2, by decide, e⟩
        refine ⟨-1, N1, _, ?_, ?_, hX1⟩
        · rw [lead, if_neg w0, if_neg w1, if_neg w2]
        · simp only [F_Md_place, hl_e, mdO_y (show nW ch < 2147483648 by omega) (show nD ch < 2147483648 by omega) hx hy n0 n1, hbN_e, z, ↓reduceIte, mdT_y hw hd, ew]
    · refine ⟨-1, N, _, ?_, ?_, hX⟩
      · simp only [F_Ps_place, psO_y (show nW ch < 2147483648 by omega) (show nD ch < 2147483648 by omega) hx hy p0 p1, hbN_e, z, ↓reduceIte, psT_n ht]
      · simp only [F_Md_place, hl_e, mdO_y (show nW ch < 2147483648 by omega) (show nD ch < 2147483648 by omega) hx hy m0 m1, hbN_e, z, ↓reduceIte, mdT_n ht]
  · refine ⟨-1, N, _, ?_, ?_, hX⟩
    · simp only [F_Ps_place, psO_n (show nW ch < 2147483648 by omega) (show nD ch < 2147483648 by omega) ho p0 p1, hbN_e, ↓reduceIte]
    · simp only [F_Md_place, hl_e, mdO_n (show nW ch < 2147483648 by omega) (show nD ch < 2147483648 by omega) ho m0 m1, hbN_e, ↓reduceIte]
