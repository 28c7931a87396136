/-! answers: clouded -/
def Yc (ch : Nat → Int32) (law : Law) (st : Nat → Int32) (seed : Nat) (q : Nat) : Int32 := yldS ch law seed (nC ch) (fun p => !bt (st 12) p) q
def poorS (ch : Nat → Int32) (st Y : Nat → Int32) : Nat → Bool := fun g => !decide (ch (6 + 2 * g) ≤ rnS ch st Y g)
def cldS (ch : Nat → Int32) (law : Law) (st : Nat → Int32) (seed : Nat) (v : Int32) : Int32 :=
  if v = -1 then nI (fb_ct (poorS ch st (Yc ch law st seed)) (nG ch)) else rnS ch st (Yc ch law st seed) v.toNatClampNeg
theorem RR.C {c : Nat} {ch : Nat → Int32} {law : Law} {N : hn} (h : RR c ch law N) : nC ch ≤ 8 ∧ N.1 c 2 = nI (nC ch) ∧ N.1 82 2 = nI (nC ch) := by
  obtain ⟨-, ⟨-, -, ⟨c1, c2⟩, -⟩, -, ⟨b1, -⟩, a7, -⟩ := h
  exact ⟨c2, by rw [b1.1 2 (by decide), c1], by rw [a7.1 2 (by decide), c1]⟩
theorem cld_ps {c : Nat} {ch : Nat → Int32} {law : Law} {N : hn} (h : RR c ch law N) {seed : Nat} (hs : seed < 10000) {v : Int32} (hv : v = -1 ∨ inR (nG ch) v) :
    ∃ N1, F_Ps_clouded c (nI seed) v N = some (cldS ch law (N.1 88) seed v, N1) ∧ RR c ch law N1 ∧ N1.1 88 = N.1 88 := by
  obtain ⟨hP, hG, -, -, -, -, -, p3⟩ := h.P
  obtain ⟨hC, e2, -⟩ := h.C
  obtain ⟨l, l1, l2⟩ := lit_ok h
  obtain ⟨a1, a2, a3, ⟨a4, a5, a6⟩, -⟩ := id h
  have hcc : c = 5 ∨ c = 20 := a1
  obtain ⟨N1, b1, b2, b3, b4⟩ := measure_ok a1 a2 a3 a4 a5 hs hC (y := 16) (by decide) (lit := l)
  have hr : rentP ch law N1 := by
    obtain ⟨K, o, r1, r2, r3, r4, r5, r6⟩ := a6
    refine ⟨K, o, r1, r2, r3, ?_, ?_, ?_⟩
    · rw [b2.1 43 (by decide) (by decide) (by decide) (by omega) (by omega)]; exact r4
    · rw [b2.1 43 (by decide) (by decide) (by decide) (by omega) (by omega)]; exact r5
    · intro i hi q hq
      rw [b2.2.2 _ (Or.inl (by omega)), b2.1 45 (by decide) (by decide) (by decide) (by omega) (by omega)]
      exact r6 i hi q hq
  have hR1 : RR c ch law N1 := h.qP (offQ.ofR a1 b2) b3 hr
  have o88 : N1.1 88 = N.1 88 := b2.1 88 (by decide) (by decide) (by decide) (by omega) (by omega)
  have hY : ∀ q, q < 12 → N1.1 44 (16 * 12 + q) = Yc ch law (N.1 88) seed q := by
    intro q hq
    rw [b4 q hq]
    exact yldS_cong (fun p hp => by rw [l2 p (by omega)]; simp [hp]) a2
  have b1' : F_Rents_measure c l (nI seed) (nI (nC ch)) (16 : Int32) N = some N1 := b1
  have e16 : (16 : Int32) = nI 16 := rfl
  have lead : B_Ps_clouded_2 c (nI seed) v N = (if v = (-1 : Int32) then F_Ps_clouded_3 c hN (16 : Int32) (0 : Int32) (0 : Int32) N1 else hbN (F_Hold_panesOf c 36 v N1) fun r6 N5 => hbN (F_Rents_givenBy c (16 : Int32) r6 N5) fun r8 N7 => some (r8, N7)) := by
    simp only [B_Ps_clouded_2, l1, hbN_e, F_Rents_cloudedYear, e2, b1', hvN_e]
  have g1 : ¬ nI seed < 0 := nI_nn (by omega)
  have g2 : ¬ (9999 : Int32) < nI seed := nI_nlt (a := 9999) (by omega) (by decide)
  have z : ¬ (1 : Int32) = 0 := by decide
  refine ⟨N1, ?_, hR1, o88⟩
  rcases hv with rfl | ⟨g, hg, rfl⟩
  · have f0 : F_Ps_clouded c (nI seed) (-1) N = B_Ps_clouded_2 c (nI seed) (-1) N := by
      simp only [F_Ps_clouded, g1, g2, ↓reduceIte]
    rw [f0, lead, if_pos rfl]
    unfold cldS
    rw [if_pos rfl]
    obtain ⟨-, -, -, -, -, -, -, q3⟩ := hR1.P
    obtain ⟨-, -, -, ⟨k1, -⟩, -⟩ := id hR1
    refine it_wp (B := B_Ps_clouded_3 c) (z := fun _ _ _ _ => none) (fun K k (q : Int32) => K (16 : Int32) q (nI k) N1) (nG ch) (fun k q => q = nI (fb_ct (poorS ch (N.1 88) (Yc ch law (N.1 88) seed)) k))
      (Q := fun x => x = some (nI (fb_ct (poorS ch (N.1 88) (Yc ch law (N.1 88) seed)) (nG ch)), N1)) ?_ ?_ (n := hN) (k := 0) (s := 0) (by omega) (hN_big (by omega)) rfl
    · intro K q hq
      have g : nI (nG ch) ≤ nI (nG ch) := Int32.le_refl _
      simp only [B_Ps_clouded_3, q3, g, ↓reduceIte, hq]
    · intro K k q hk hq
      right
      have g3 : ¬ nI (nG ch) ≤ nI k := nI_ge hk (by omega)
      have x1 : hn_ix 6 (nI k) = true := ix_ok (by omega) (by decide)
      have c1 : (nI k).toNatClampNeg = k := nI_lt31 (by omega)
      have rp := rents_ps hR1 (y := 16) (by decide) (show k < 6 by omega) hY
      rw [o88, ← e16] at rp
      by_cases e : ch (6 + 2 * k) ≤ rnS ch (N.1 88) (Yc ch law (N.1 88) seed) k
      · refine ⟨q, ?_, ?_⟩
        · rw [fb_ct_succ, hq]; simp [poorS, e]
        · simp only [B_Ps_clouded_3, q3, g3, ↓reduceIte, panesOf_ok, hbN_e, rp, x1, hg_T, c1, (k1.2.2.1 k hk).2, e, ← nI_succ]
      · refine ⟨q + 1, ?_, ?_⟩
        · rw [fb_ct_succ, hq, ← nI_succ]; congr 1; simp [poorS, e]
        · simp only [B_Ps_clouded_3, q3, g3, ↓reduceIte, panesOf_ok, hbN_e, rp, x1, hg_T, c1, (k1.2.2.1 k hk).2, e, ← nI_succ]
  · have n1 : ¬ nI g = (-1 : Int32) := nI_nm (by omega)
    have rp := rents_ps hR1 (y := 16) (by decide) (show g < 6 by omega) hY
    rw [o88, ← e16] at rp
    have f0 : F_Ps_clouded c (nI seed) (nI g) N = B_Ps_clouded_2 c (nI seed) (nI g) N := by
      simp only [F_Ps_clouded, g1, g2, ↓reduceIte, n1, psG_y (show nG ch < 2147483648 by omega) hg p3, hbN_e, z]
    rw [f0, lead, if_neg n1, panesOf_ok, hbN_e, rp, hbN_e]
    unfold cldS
    rw [if_neg n1, nI_lt31 (by omega)]
def offB (N N' : hn) : Prop := (∀ b, b ≠ 86 → b ≠ 87 → b ≠ 90 → b ≠ 91 → N'.1 b = N.1 b) ∧ (∀ b, b ≠ 76 → N'.2 b = N.2 b)
theorem offB.refl {N : hn} : offB N N := ⟨fun _ _ _ _ _ => rfl, fun _ _ => rfl⟩
theorem offB.trans {N N1 N2 : hn} (h : offB N N1) (h2 : offB N1 N2) : offB N N2 := ⟨fun b a1 a2 a3 a4 => (h2.1 b a1 a2 a3 a4).trans (h.1 b a1 a2 a3 a4), fun b a => (h2.2 b a).trans (h.2 b a)⟩
theorem offB.ofA {N N' : hn} (h : offA N N') : offB N N' := ⟨h.1, fun b _ => by rw [h.2]⟩
theorem offM.ofB {N N' : hn} (h : offB N N') : offM N N' := ⟨fun b a1 a2 a3 a4 => h.1 b a2 a3 (by omega) (by omega), fun k _ _ => by rw [h.1 76 (by decide) (by decide) (by decide) (by decide)], fun b a => h.2 b a⟩
theorem draw_ok {c seed t : Nat} (hs : seed < 10000) {N : hn} (e : N.2 76 34 = lN (gN seed t)) : F_Md_draw c (8 : Int32) N = some (nI (gN seed (t + 1) / 65536 % 8), hn_wL N 76 34 (lN (gN seed (t + 1)))) := by
  have e8 : (8 : Int32).toInt64 = 8 := rfl
  have n8 : ¬ (8 : Int64) = 0 := by decide
  have hv : gN seed (t + 1) / 65536 % 8 < 8 := Nat.mod_lt _ (by decide)
  simp only [F_Md_draw, e, gN_step hs, hl_e, e8, n8, not_false_eq_true, hg_T, wL_s, gN_draw hs, lN_32 (show gN seed (t + 1) / 65536 % 8 < 2147483648 by omega)]
theorem cld_md {c : Nat} {ch : Nat → Int32} {law : Law} {N : hn} (h : RR c ch law N) {seed : Nat} (hs : seed < 10000) {v : Int32} (hv : v = -1 ∨ inR (nG ch) v) :
    ∃ N2, F_Md_clouded c (nI seed) v N = some (cldS ch law (N.1 88) seed v, N2) ∧ RR c ch law N2 ∧ N2.1 76 0 = 0 ∧ N2.2 99 = N.2 99 := by
  obtain ⟨hP, hG, -, -, -, m3, -, -⟩ := h.P
  obtain ⟨hC, -, -⟩ := h.C
  have z : ¬ (1 : Int32) = 0 := by decide
  have ew : F_Md_within c (nI seed) (0 : Int32) (9999 : Int32) N = some (1, N) := mdW_y (k := 9999) (by decide) (by omega)
  obtain ⟨X, eX⟩ : ∃ X, X = hn_wL (hn_wI N 76 0 0) 76 34 (lN seed) := ⟨_, rfl⟩
  have oX : offM N X := by
    rw [eX]
    refine ⟨fun b a1 _ _ _ => ?_, fun k a1 _ => ?_, fun b a => ?_⟩
    · rw [wL_1, wI_o a1]
    · rw [wL_1, wI_n a1]
    · rw [wL_o a]; rfl
  have hX : RR c ch law X := h.qM oX
  have x88 : X.1 88 = N.1 88 := oX.1 88 (by decide) (by decide) (by decide) (by omega)
  have xg : X.2 76 34 = lN seed := by rw [eX, wL_s]
  have x0 : X.1 76 0 = 0 := by rw [eX, wL_1, wI_s]
  have x99 : X.2 99 = N.2 99 := oX.2.2 99 (by decide)
  have lead : F_Md_clouded c (nI seed) v N = F_Md_clouded_3 c hN v (0 : Int32) X := by
    have k1 : B_Md_clouded_2 c (nI seed) v (0 : Int32) N = F_Md_clouded_3 c hN v (0 : Int32) X := by
      have e0 : (hn_wI N 76 0 0).1 76 0 = 0 := wI_s
      have e1 : (0 : Int32) ≤ 0 := by decide
      simp only [B_Md_clouded_2, hl_e, e0, e1, ↓reduceIte, nI_64 (show seed < 2147483648 by omega)]
      rw [← eX]
    rcases hv with rfl | ⟨g, hg, rfl⟩
    · simp only [F_Md_clouded, ew, hbN_e, z, ↓reduceIte]
      exact k1
    · have n1 : ¬ nI g = (-1 : Int32) := nI_nm (by omega)
      simp only [F_Md_clouded, ew, hbN_e, z, ↓reduceIte, n1, mdG_y (show nG ch < 2147483648 by omega) hg m3]
      exact k1
  rw [lead]
  obtain ⟨-, a2, a3, -, a7, -⟩ := id hX
  -- the last loop: who is poor
  have fin : ∀ Y : hn, offB X Y → (∀ p, p < nP ch → Y.1 91 p = Yc ch law (N.1 88) seed p) → F_Md_clouded_5 c hN v (0 : Int32) (0 : Int32) Y = some (cldS ch law (N.1 88) seed v, Y) := by
    intro Y oY hY
    have hRY : RR c ch law Y := hX.qM (offM.ofB oY)
    obtain ⟨-, -, -, -, -, y3, -, -⟩ := hRY.P
    obtain ⟨-, -, -, -, b7, -⟩ := id hRY
    have y88 : Y.1 88 = N.1 88 := by rw [oY.1 88 (by decide) (by decide) (by decide) (by decide)]; exact x88
    have rm : ∀ g, F_Md_rentsOf c (nI g) Y = some (rnS ch (N.1 88) (Yc ch law (N.1 88) seed) g, Y) := by
      intro g; have := rents_md hRY (g := g) hY; rw [y88] at this; exact this
    refine it_wp (B := B_Md_clouded_5 c) (z := fun _ _ _ _ => none) (fun K k (q : Int32) => K v q (nI k) Y) (nG ch) (fun k q => q = nI (fb_ct (poorS ch (N.1 88) (Yc ch law (N.1 88) seed)) k))
      (Q := fun x => x = some (cldS ch law (N.1 88) seed v, Y)) ?_ ?_ (n := hN) (k := 0) (s := 0) (by omega) (hN_big (by omega)) rfl
    · intro K q hq
      have g : nI (nG ch) ≤ nI (nG ch) := Int32.le_refl _
      unfold cldS
      rcases hv with rfl | ⟨g', hg, rfl⟩
      · simp only [B_Md_clouded_5, guilds_ok, hbN_e, y3, g, ↓reduceIte, hq]
      · have n1 : ¬ nI g' = (-1 : Int32) := nI_nm (by omega)
        simp only [B_Md_clouded_5, guilds_ok, hbN_e, y3, g, ↓reduceIte, n1, rm, nI_lt31 (show g' < 2147483648 by omega)]
    · intro K k q hk hq
      right
      have g3 : ¬ nI (nG ch) ≤ nI k := nI_ge hk (by omega)
      have e5 : ((5 : Int32) + ((2 : Int32) * nI k)) + (1 : Int32) = nI (6 + 2 * k) := by
        rw [show (5 : Int32) = nI 5 from rfl, show (2 : Int32) = nI 2 from rfl, show (1 : Int32) = nI 1 from rfl, nI_m, nI_a, nI_a]; congr 1; omega
      have x1 : hn_ix 160 (nI (6 + 2 * k)) = true := ix_ok (by omega) (by decide)
      have c1 : (nI (6 + 2 * k)).toNatClampNeg = 6 + 2 * k := nI_lt31 (by omega)
      by_cases e : ch (6 + 2 * k) ≤ rnS ch (N.1 88) (Yc ch law (N.1 88) seed) k
      · refine ⟨q, ?_, ?_⟩
        · rw [fb_ct_succ, hq]; simp [poorS, e]
        · simp only [B_Md_clouded_5, B_Md_clouded_6, guilds_ok, hbN_e, y3, g3, ↓reduceIte, rm, e5, x1, hg_T, c1, b7.1 (6 + 2 * k) (by omega), e, hl_e, Int32.add_zero, ← nI_succ]
      · refine ⟨q + 1, ?_, ?_⟩
        · rw [fb_ct_succ, hq, ← nI_succ]; congr 1; simp [poorS, e]
        · simp only [B_Md_clouded_5, B_Md_clouded_6, guilds_ok, hbN_e, y3, g3, ↓reduceIte, rm, e5, x1, hg_T, c1, b7.1 (6 + 2 * k) (by omega), e, hl_e, ← nI_succ]
  -- the year
  have yr : ∀ Y : hn, offB X Y → Y.2 76 34 = lN seed → (∀ p, p < 12 → Y.1 91 p = 0) → ∃ N2, F_Md_clouded_4 c hN v (0 : Int32) Y = some (cldS ch law (N.1 88) seed v, N2) ∧ offB X N2 := by
    intro Y oY yg h0
    refine it_wp (B := B_Md_clouded_4 c) (z := fun _ _ _ => none) (fun K k (q : hn) => K v (nI k) q) 1248
      (fun k q => offB X q ∧ q.2 76 34 = lN (gN seed k) ∧ ∀ p, p < nP ch → q.1 91 p = smS (fun t => if gN seed (t + 1) / 65536 % 8 < nC ch then 0 else shS ch law (fun p => !bt (N.1 88 12) p) t p) k)
      (Q := fun x => ∃ N2, x = some (cldS ch law (N.1 88) seed v, N2) ∧ offB X N2) ?_ ?_ (n := hN) (k := 0) (s := Y) (by omega) (hN_big (by omega)) ⟨oY, yg, fun p hp => h0 p (by omega)⟩
    · rintro K s ⟨i1, i2, i3⟩
      refine ⟨s, ?_, i1⟩
      have g : (1248 : Int32) ≤ nI 1248 := by decide
      simp only [B_Md_clouded_4, g, ↓reduceIte]
      exact fin s i1 i3
    · rintro K t s ht ⟨i1, i2, i3⟩
      right
      have g : ¬ (1248 : Int32) ≤ nI t := nI_ge (b := 1248) ht (by decide)
      obtain ⟨s1, es1⟩ : ∃ s1, s1 = hn_wL s 76 34 (lN (gN seed (t + 1))) := ⟨_, rfl⟩
      have o1 : offB s s1 := by rw [es1]; exact ⟨fun _ _ _ _ _ => rfl, fun b hb => wL_o hb⟩
      have g34 : s1.2 76 34 = lN (gN seed (t + 1)) := by rw [es1, wL_s]
      have s91 : s1.1 = s.1 := by rw [es1]; rfl
      have hR1 : RR c ch law s1 := hX.qM (offM.ofB (i1.trans o1))
      obtain ⟨-, -, m2⟩ := hR1.C
      obtain ⟨-, -, -, -, b7, -⟩ := id hR1
      have s88 : s1.1 88 = N.1 88 := by rw [(i1.trans o1).1 88 (by decide) (by decide) (by decide) (by decide)]; exact x88
      have hvv : gN seed (t + 1) / 65536 % 8 < 8 := Nat.mod_lt _ (by decide)
      have dr : F_Md_draw c (8 : Int32) s = some (nI (gN seed (t + 1) / 65536 % 8), s1) := by rw [draw_ok hs i2, es1]
      by_cases q : gN seed (t + 1) / 65536 % 8 < nC ch
      · have g2 : nI (gN seed (t + 1) / 65536 % 8) < nI (nC ch) := nI_lt q (by omega)
        refine ⟨s1, ⟨i1.trans o1, g34, ?_⟩, ?_⟩
        · intro p hp; rw [s91, smS, if_pos q, Int32.add_zero]; exact i3 p hp
        · simp only [B_Md_clouded_4, g, ↓reduceIte, dr, hbN_e, x_160_2, hg_T, t_2, m2, g2, ← nI_succ]
      · have g2 : ¬ nI (gN seed (t + 1) / 65536 % 8) < nI (nC ch) := nI_nlt (by omega) (by omega)
        obtain ⟨s2, w1, w2, w3⟩ := addsYields_ok (c := c) a2 a3 b7 hR1.own ht
        refine ⟨s2, ⟨(i1.trans o1).trans (offB.ofA w2), ?_, ?_⟩, ?_⟩
        · rw [w2.2]; exact g34
        · intro p hp
          rw [w3 p hp, smS, if_neg q, s91, i3 p hp, litB_eq hR1, s88]
        · simp only [B_Md_clouded_4, g, ↓reduceIte, dr, hbN_e, x_160_2, hg_T, t_2, m2, g2, div24 ht, mod24 ht, w1, hvN_e, ← nI_succ]
  have all : ∃ N2, F_Md_clouded_3 c hN v (0 : Int32) X = some (cldS ch law (N.1 88) seed v, N2) ∧ offB X N2 := by
    refine it_wp (B := B_Md_clouded_3 c) (z := fun _ _ _ => none) (fun K k (q : hn) => K v (nI k) q) 12
      (fun k q => offB X q ∧ q.2 76 34 = lN seed ∧ ∀ p, p < k → q.1 91 p = 0)
      (Q := fun x => ∃ N2, x = some (cldS ch law (N.1 88) seed v, N2) ∧ offB X N2) ?_ ?_ (n := hN) (k := 0) (s := X) (by omega) (hN_big (by omega)) ⟨offB.refl, xg, fun p hp => absurd hp (Nat.not_lt_zero p)⟩
    · rintro K s ⟨i1, i2, i3⟩
      obtain ⟨N2, w1, w2⟩ := yr s i1 i2 i3
      refine ⟨N2, ?_, w2⟩
      have g : (12 : Int32) ≤ nI 12 := by decide
      simp only [B_Md_clouded_3, g, ↓reduceIte]
      exact w1
    · rintro K k s hk ⟨i1, i2, i3⟩
      right
      have g : ¬ (12 : Int32) ≤ nI k := nI_ge (b := 12) hk (by decide)
      have x1 : hn_ix 12 (nI k) = true := ix_ok hk (by decide)
      have c1 : (nI k).toNatClampNeg = k := nI_lt31 (by omega)
      refine ⟨hn_wI s 91 k 0, ⟨i1.trans (offB.ofA offA.w91), i2, ?_⟩, ?_⟩
      · intro p hp
        by_cases e : p = k
        · subst e; rw [wI_s]
        · rw [wI_n e]; exact i3 p (by omega)
      · simp only [B_Md_clouded_3, g, ↓reduceIte, x1, hg_T, c1, hl_e, ← nI_succ]
  obtain ⟨N2, w1, w2⟩ := all
  refine ⟨N2, w1, hX.qM (offM.ofB w2), ?_, ?_⟩
  · rw [w2.1 76 (by decide) (by decide) (by decide) (by decide)]; exact x0
  · rw [w2.2 99 (by decide)]; exact x99
theorem cld_bad {c : Nat} {ch : Nat → Int32} {law : Law} {N : hn} (h : RR c ch law N) {u v : Int32} (hv : ¬ (inR 10000 u ∧ (v = -1 ∨ inR (nG ch) v))) :
    ∃ N2, F_Md_clouded c u v N = some (0, N2) ∧ RR c ch law N2 ∧ N2.1 76 0 = 1 := by
  obtain ⟨hP, hG, -, -, -, m3, -, -⟩ := h.P
  have z : ¬ (1 : Int32) = 0 := by decide
  have k1 : B_Md_clouded_1 c u v N = some (0, hn_wI N 76 0 1) := by
    have e0 : (hn_wI N 76 0 1).1 76 0 = 1 := wI_s
    have e1 : ¬ (1 : Int32) ≤ 0 := by decide
    simp only [B_Md_clouded_1, B_Md_clouded_2, hl_e, e0, e1, ↓reduceIte]
  refine ⟨hn_wI N 76 0 1, ?_, h.thr, wI_s⟩
  by_cases hu : inR 10000 u
  · obtain ⟨x, hx, rfl⟩ := hu
    have ew : F_Md_within c (nI x) (0 : Int32) (9999 : Int32) N = some (1, N) := mdW_y (k := 9999) (by decide) hx
    have n1 : ¬ v = -1 := fun e => hv ⟨⟨x, hx, rfl⟩, Or.inl e⟩
    have n2 : ¬ inR (nG ch) v := fun e => hv ⟨⟨x, hx, rfl⟩, Or.inr e⟩
    simp only [F_Md_clouded, ew, hbN_e, z, ↓reduceIte, n1, mdG_n (show nG ch < 2147483648 by omega) n2 m3]
    exact k1
  · have ew : F_Md_within c u (0 : Int32) (9999 : Int32) N = some (0, N) := mdW_n (k := 9999) (by decide) hu
    simp only [F_Md_clouded, ew, hbN_e, ↓reduceIte]
    exact k1
theorem RR.w99 {c : Nat} {ch : Nat → Int32} {law : Law} {N : hn} (h : RR c ch law N) {x : Int64} : RR c ch law (hn_wL N 99 0 x) := by
  obtain ⟨a1, a2, a3, ⟨a4, a5, a6⟩, a7, a8, a9, a10, a11, a12, a13⟩ := h
  refine ⟨a1, a2, a3, ⟨a4, ⟨?_, a5.2⟩, a6⟩, a7, a8, a9, a10, a11, a12, ?_⟩
  · unfold yrP; rw [wL_o (by decide)]; exact a5.1
  · intro k hk; rw [wL_o (by decide)]; exact a13 k hk
