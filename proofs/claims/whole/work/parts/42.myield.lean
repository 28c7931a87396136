/-! what panes yield: the reference's side -/
theorem rentAt_ok {c : Nat} {ch : Nat → Int32} {law : Law} {N : hn} (hl : lawOK law) (hm : mchap ch law N) {t : Nat} {place many : Int32} :
    ∃ N', F_Md_rentAt c (nI (t / 24)) (nI (t % 24)) place many N = some (rentS law t place many, N') ∧ (∀ b, b ≠ 86 → b ≠ 87 → N'.1 b = N.1 b) ∧ N'.2 = N.2 := by
  have h := hm.2 3 (by decide)
  cases e : law 3 with
  | none =>
    rw [e] at h
    have h' : N.1 82 68 = -1 := h
    have ev : lawV law 3 (facR t place many) = 1 := by simp only [lawV, e]; rfl
    refine ⟨N, ?_, fun _ _ _ => rfl, rfl⟩
    have z : ¬ (0 : Int32) ≤ -1 := by decide
    have er : rentS law t place many = 1 := by unfold rentS; rw [ev]; decide
    simp only [F_Md_rentAt, x_160_68, hg_T, t_68, h', z, ↓reduceIte, er]
  | some l =>
    rw [e] at h
    obtain ⟨i, h1, h2⟩ := h
    have h1' : N.1 82 68 = nI i := h1
    have hi : i < 2147483648 := by have := h2.2.2; omega
    obtain ⟨N5, e5⟩ : ∃ N5, N5 = hn_wI (hn_wI (hn_wI (hn_wI (hn_wI N 86 0 (nI (t / 24))) 86 1 (nI (t % 24))) 86 4 (place - place / 8 * 8)) 86 5 (place / 8)) 86 6 many := ⟨_, rfl⟩
    have o5 : ∀ b, b ≠ 86 → N5.1 b = N.1 b := fun b hb => by rw [e5, wI_o hb, wI_o hb, wI_o hb, wI_o hb, wI_o hb]
    have f0 : N5.1 86 0 = nI (t / 24) := by rw [e5, wI_n (by decide), wI_n (by decide), wI_n (by decide), wI_n (by decide), wI_s]
    have f1 : N5.1 86 1 = nI (t % 24) := by rw [e5, wI_n (by decide), wI_n (by decide), wI_n (by decide), wI_s]
    have f4 : N5.1 86 4 = place - place / 8 * 8 := by rw [e5, wI_n (by decide), wI_n (by decide), wI_s]
    have f5 : N5.1 86 5 = place / 8 := by rw [e5, wI_n (by decide), wI_s]
    have f6 : N5.1 86 6 = many := by rw [e5, wI_s]
    have s5 : segM N5 i l := by unfold segM; rw [o5 83 (by decide), o5 84 (by decide)]; exact h2
    obtain ⟨N6, a1, a2⟩ := worthAt_ok (c := c) (hl 3 (by decide) l e).2 s5
    have ev : valL (N5.1 86) l = lawV law 3 (facR t place many) := by
      have := fac_cong hl f0 f1 f4 f5 f6
      rw [← this]
      simp only [lawV, e]
    rw [ev] at a1
    have k68 : N5.1 82 68 = nI i := by rw [o5 82 (by decide)]; exact h1'
    refine ⟨N6, ?_, ?_, ?_⟩
    · simp only [F_Md_rentAt, x_160_68, hg_T, t_68, h1', nI_p hi, ↓reduceIte, x_7_0, x_7_1, x_7_4, x_7_5, x_7_6, hl_e, t_0, t_1, t_4, t_5, t_6]
      rw [← e5, k68, a1, hbN_e]
      unfold rentS
      by_cases q : lawV law 3 (facR t place many) < 0
      · have q2 : ¬ 0 ≤ lawV law 3 (facR t place many) := (fa_of_lt q).2.1
        simp only [q, q2, ↓reduceIte]
      · have q2 : 0 ≤ lawV law 3 (facR t place many) := fa_of_nlt q
        by_cases q3 : 999 < lawV law 3 (facR t place many)
        · have q4 : ¬ lawV law 3 (facR t place many) ≤ 999 := (fa_of_lt q3).2.1
          simp only [q, q2, q3, q4, ↓reduceIte]
        · have q4 : lawV law 3 (facR t place many) ≤ 999 := fa_of_nlt q3
          simp only [q, q2, q3, q4, ↓reduceIte]
    · intro b b1 b2; rw [a2.1 b b2, o5 b b1]
    · rw [a2.2, e5]; rfl
def offA (N N' : hn) : Prop := (∀ b, b ≠ 86 → b ≠ 87 → b ≠ 90 → b ≠ 91 → N'.1 b = N.1 b) ∧ N'.2 = N.2
theorem offA.refl {N : hn} : offA N N := ⟨fun _ _ _ _ _ => rfl, rfl⟩
theorem offA.trans {N N1 N2 : hn} (h : offA N N1) (h2 : offA N1 N2) : offA N N2 := ⟨fun b a1 a2 a3 a4 => (h2.1 b a1 a2 a3 a4).trans (h.1 b a1 a2 a3 a4), h2.2.trans h.2⟩
theorem offA.ofF {N N' : hn} (h : offF N N') : offA N N' := ⟨fun b a1 a2 a3 _ => h.1 b a1 a2 a3, h.2⟩
theorem offA.w91 {i : Nat} {v : Int32} {N : hn} : offA N (hn_wI N 91 i v) := ⟨fun _ _ _ _ h1 => wI_o h1, rfl⟩
theorem mchap.offA {ch : Nat → Int32} {law : Law} {N N' : hn} (h : mchap ch law N) (ho : offA N N') : mchap ch law N' :=
  h.off (ho.1 82 (by decide) (by decide) (by decide) (by decide)) (ho.1 83 (by decide) (by decide) (by decide) (by decide)) (ho.1 84 (by decide) (by decide) (by decide) (by decide))
theorem ownM.offA {ch : Nat → Int32} {N N' : hn} (h : ownM ch N) (ho : offA N N') : ownM ch N' := by
  unfold ownM; rw [ho.1 88 (by decide) (by decide) (by decide) (by decide)]; exact h
theorem litB.offA {N N' : hn} (ho : offA N N') : litB N' = litB N := by
  unfold litB; rw [ho.1 88 (by decide) (by decide) (by decide) (by decide), ho.1 76 (by decide) (by decide) (by decide) (by decide)]
theorem addsYields_ok {c : Nat} {ch : Nat → Int32} {law : Law} {N : hn} (hch : chOK ch) (hl : lawOK law) (hm : mchap ch law N) (hw : ownM ch N) {t : Nat} (ht : t < 1248) :
    ∃ N', F_Md_addsYields c (nI (t / 24)) (nI (t % 24)) N = some N' ∧ offA N N' ∧ ∀ p, p < nP ch → N'.1 91 p = N.1 91 p + shS ch law (litB N) t p := by
  obtain ⟨-, -, -, ⟨g1, g2⟩, ⟨p1, p2⟩, -⟩ := id hch
  obtain ⟨N1, a1, a2, a3⟩ := findLight_ok (c := c) hch hl hm hw ht
  unfold F_Md_addsYields
  rw [a1, hvN_e]
  refine it_wp (B := B_Md_addsYields_1 c) (z := fun _ _ _ _ => none) (fun K k (s : hn) => K (nI (t / 24)) (nI (t % 24)) (nI k) s) (nP ch)
    (fun k s => offA N s ∧ s.1 90 = N1.1 90 ∧ (∀ p, p < k → s.1 91 p = N.1 91 p + shS ch law (litB N) t p) ∧ (∀ p, k ≤ p → s.1 91 p = N.1 91 p))
    (Q := fun x => ∃ N', x = some N' ∧ offA N N' ∧ ∀ p, p < nP ch → N'.1 91 p = N.1 91 p + shS ch law (litB N) t p) ?_ ?_ (n := hN) (k := 0) (s := N1) (by omega) (hN_big (by omega)) ⟨offA.ofF a2, rfl, fun p hp => absurd hp (Nat.not_lt_zero p), fun p _ => by rw [a2.1 91 (by decide) (by decide) (by decide)]⟩
  · rintro K s ⟨i1, i2, i3, i4⟩
    refine ⟨s, ?_, i1, i3⟩
    have k4 : s.1 82 4 = nI (nP ch) := by rw [i1.1 82 (by decide) (by decide) (by decide) (by decide), hm.1 4 (by decide), p1]
    have g : nI (nP ch) ≤ nI (nP ch) := Int32.le_refl _
    simp only [B_Md_addsYields_1, panes_ok, hbN_e, k4, g, ↓reduceIte]
  · rintro K k s hk ⟨i1, i2, i3, i4⟩
    right
    have k4 : s.1 82 4 = nI (nP ch) := by rw [i1.1 82 (by decide) (by decide) (by decide) (by decide), hm.1 4 (by decide), p1]
    have gg : ¬ nI (nP ch) ≤ nI k := nI_ge hk (by omega)
    have x1 : hn_ix 12 (nI k) = true := ix_ok (by omega) (by decide)
    have c1 : (nI k).toNatClampNeg = k := nI_lt31 (by omega)
    have sk : s.1 90 k = if litB N k then spF ch law t k else -1 := by rw [i2]; exact a3 k hk
    by_cases hL : litB N k = true ∧ spF ch law t k ≠ -1
    · have sk' : s.1 90 k = spF ch law t k := by rw [sk, if_pos hL.1]
      have nn : ¬ spF ch law t k < 0 := by
        rcases spF_or hch law t k with q | ⟨m, m1, m2⟩
        · exact absurd q hL.2
        · rw [m2]; exact nI_nn (by omega)
      have ec : fb_ct (fun p => decide (s.1 90 p = spF ch law t k)) (nP ch) = fb_ct (grp ch law (litB N) t k) 12 := by
        rw [ct_ext (p := grp ch law (litB N) t k) (m := nP ch) (n := 12) p2 (fun i h1 _ => by unfold grp; rw [spF_out h1]; simp [Ne.symm hL.2])]
        apply fb_ct_cong
        intro i hi
        show decide (s.1 90 i = spF ch law t k) = grp ch law (litB N) t k i
        rw [i2, a3 i hi]
        unfold grp
        by_cases b : litB N i = true
        · rw [if_pos b, b, Bool.and_true]
        · have b' : litB N i = false := by simpa using b
          rw [if_neg b, b']; simp [Ne.symm hL.2]
      obtain ⟨m, em⟩ : ∃ m, m = fb_ct (grp ch law (litB N) t k) 12 := ⟨_, rfl⟩
      have m0 : 0 < m := by rw [em]; exact ct_pos (k := k) (by omega) (by simp [grp, hL.1])
      have m1 : m ≤ 12 := by rw [em]; exact fb_ct_le _ _
      obtain ⟨N5, b1, b2, b3⟩ := rentAt_ok (c := c) hl (hm.offA i1) (t := t) (place := spF ch law t k) (many := nI m)
      have n0 : ¬ nI m = 0 := nI_ne0 m0 (by omega)
      refine ⟨hn_wI N5 91 k (s.1 91 k + (rentS law t (spF ch law t k) (nI m) / nI m)), ⟨?_, ?_, ?_, ?_⟩, ?_⟩
      · refine ⟨fun b c1 c2 c3 c4 => ?_, ?_⟩
        · rw [wI_o c4, b2 b c1 c2, i1.1 b c1 c2 c3 c4]
        · show N5.2 = _; rw [b3, i1.2]
      · rw [wI_o (by decide), b2 90 (by decide) (by decide), i2]
      · intro p hp
        by_cases e : p = k
        · subst e
          rw [wI_s, i4 p (Nat.le_refl _)]
          unfold shS
          rw [if_pos hL, ← em]
        · rw [wI_n e, b2 91 (by decide) (by decide)]; exact i3 p (by omega)
      · intro p hp
        rw [wI_n (by omega), b2 91 (by decide) (by decide)]; exact i4 p (by omega)
      · have z1 : ¬ (2 : Int32) = 0 := by decide
        have z2 : ¬ (2 : Int32) = 1 := by decide
        simp only [B_Md_addsYields_1, panes_ok, hbN_e, k4, gg, ↓reduceIte, x1, hg_T, c1, sk', nn, lightAt_ok p2 k4, z1, z2, ec]
        rw [← em, b1]
        simp only [hbN_e, n0, not_false_eq_true, hg_T, hl_e, ← nI_succ]
    · have s0 : s.1 90 k = -1 := by
        rw [sk]
        by_cases q : litB N k = true
        · rw [if_pos q]
          by_cases q2 : spF ch law t k = -1
          · exact q2
          · exact absurd ⟨q, q2⟩ hL
        · rw [if_neg q]
      have e0 : shS ch law (litB N) t k = 0 := by unfold shS; rw [if_neg hL]
      refine ⟨s, ⟨i1, i2, ?_, fun p hp => i4 p (by omega)⟩, ?_⟩
      · intro p hp
        by_cases e : p = k
        · subst e; rw [e0, Int32.add_zero]; exact i4 p (Nat.le_refl _)
        · exact i3 p (by omega)
      · have z : (-1 : Int32) < 0 := by decide
        simp only [B_Md_addsYields_1, panes_ok, hbN_e, k4, gg, ↓reduceIte, x1, hg_T, c1, s0, z, ← nI_succ]
theorem div24 {t : Nat} (ht : t < 1248) : nI t / (24 : Int32) = nI (t / 24) := nI_d (b := 24) (by omega) (by decide)
theorem mod24 {t : Nat} (ht : t < 1248) : nI t - nI (t / 24) * (24 : Int32) = nI (t % 24) := by rw [← div24 ht]; exact nI_r (b := 24) (by omega) (by decide)
theorem findYields_2 {c : Nat} {ch : Nat → Int32} {law : Law} {N : hn} (hch : chOK ch) (hl : lawOK law) (hm : mchap ch law N) (hw : ownM ch N) (h0 : ∀ p, p < 12 → N.1 91 p = 0) :
    ∃ N', F_Md_findYields_2 c hN (0 : Int32) N = some N' ∧ offA N N' ∧ ∀ p, p < nP ch → N'.1 91 p = yldS ch law 0 0 (litB N) p := by
  obtain ⟨-, -, -, ⟨g1, g2⟩, ⟨p1, p2⟩, -⟩ := id hch
  refine it_wp (B := B_Md_findYields_2 c) (z := fun _ _ => none) (fun K k (s : hn) => K (nI k) s) 1248
    (fun k s => offA N s ∧ ∀ p, p < nP ch → s.1 91 p = smS (fun t => if gN 0 (t + 1) / 65536 % 8 < 0 then 0 else shS ch law (litB N) t p) k)
    (Q := fun x => ∃ N', x = some N' ∧ offA N N' ∧ ∀ p, p < nP ch → N'.1 91 p = yldS ch law 0 0 (litB N) p) ?_ ?_ (n := hN) (k := 0) (s := N) (by omega) (hN_big (by omega)) ⟨offA.refl, fun p hp => h0 p (by omega)⟩
  · rintro K s ⟨i1, i2⟩
    refine ⟨s, ?_, i1, i2⟩
    have g : (1248 : Int32) ≤ nI 1248 := by decide
    simp only [B_Md_findYields_2, g, ↓reduceIte]
  · rintro K t s ht ⟨i1, i2⟩
    right
    have g : ¬ (1248 : Int32) ≤ nI t := nI_ge (b := 1248) ht (by decide)
    obtain ⟨N', a1, a2, a3⟩ := addsYields_ok (c := c) hch hl (hm.offA i1) (hw.offA i1) ht
    refine ⟨N', ⟨i1.trans a2, ?_⟩, ?_⟩
    · intro p hp
      rw [smS, a3 p hp, i2 p hp, litB.offA i1, if_neg (Nat.not_lt_zero _)]
    · simp only [B_Md_findYields_2, g, ↓reduceIte, div24 ht, mod24 ht, a1, hvN_e, ← nI_succ]
theorem findYields_ok {c : Nat} {ch : Nat → Int32} {law : Law} {N : hn} (hch : chOK ch) (hl : lawOK law) (hm : mchap ch law N) (hw : ownM ch N) :
    ∃ N', F_Md_findYields c N = some N' ∧ offA N N' ∧ ∀ p, p < nP ch → N'.1 91 p = yldS ch law 0 0 (litB N) p := by
  refine it_wp (B := B_Md_findYields_1 c) (z := fun _ _ => none) (fun K k (s : hn) => K (nI k) s) 12
    (fun k s => offA N s ∧ ∀ p, p < k → s.1 91 p = 0)
    (Q := fun x => ∃ N', x = some N' ∧ offA N N' ∧ ∀ p, p < nP ch → N'.1 91 p = yldS ch law 0 0 (litB N) p) ?_ ?_ (n := hN) (k := 0) (s := N) (by omega) (hN_big (by omega)) ⟨offA.refl, fun p hp => absurd hp (Nat.not_lt_zero p)⟩
  · rintro K s ⟨i1, i2⟩
    obtain ⟨N', a1, a2, a3⟩ := findYields_2 (c := c) hch hl (hm.offA i1) (hw.offA i1) i2
    rw [litB.offA i1] at a3
    refine ⟨N', ?_, i1.trans a2, a3⟩
    have g : (12 : Int32) ≤ nI 12 := by decide
    simp only [B_Md_findYields_1, g, ↓reduceIte]
    exact a1
  · rintro K k s hk ⟨i1, i2⟩
    right
    have g : ¬ (12 : Int32) ≤ nI k := nI_ge (b := 12) hk (by decide)
    have x1 : hn_ix 12 (nI k) = true := ix_ok hk (by decide)
    have c1 : (nI k).toNatClampNeg = k := nI_lt31 (by omega)
    refine ⟨hn_wI s 91 k 0, ⟨i1.trans offA.w91, ?_⟩, ?_⟩
    · intro p hp
      by_cases e : p = k
      · subst e; rw [wI_s]
      · rw [wI_n e]; exact i2 p (by omega)
    · simp only [B_Md_findYields_1, g, ↓reduceIte, x1, hg_T, c1, hl_e, ← nI_succ]
/-! the same yields on both sides -/
theorem shS_cong {ch : Nat → Int32} {law : Law} {L L' : Nat → Bool} {t p : Nat} (h : ∀ q, q < nP ch → L q = L' q) (hch : chOK ch) : shS ch law L t p = shS ch law L' t p := by
  by_cases e : spF ch law t p = -1
  · unfold shS; rw [if_neg (fun b => b.2 e), if_neg (fun b => b.2 e)]
  · have hp : p < nP ch := by
      rcases Nat.lt_or_ge p (nP ch) with q | q
      · exact q
      · exact absurd (spF_out q) e
    have eg : grp ch law L t p = grp ch law L' t p := by
      funext q
      unfold grp
      by_cases hq : q < nP ch
      · rw [h q hq]
      · rw [spF_out (by omega)]; simp [Ne.symm e]
    unfold shS
    rw [eg, h p hp]
theorem yldS_cong {ch : Nat → Int32} {law : Law} {seed C : Nat} {L L' : Nat → Bool} {p : Nat} (h : ∀ q, q < nP ch → L q = L' q) (hch : chOK ch) : yldS ch law seed C L p = yldS ch law seed C L' p :=
  smS_cong (fun t _ => by rw [shS_cong h hch])
theorem smS_ext {f : Nat → Int32} {m n : Nat} (hmn : m ≤ n) (h : ∀ i, m ≤ i → i < n → f i = 0) : smS f n = smS f m := by
  induction n with
  | zero => have : m = 0 := by omega
            subst this; rfl
  | succ n ih =>
    rcases Nat.lt_or_ge m (n + 1) with q | q
    · rw [smS, ih (by omega) (fun i h1 h2 => h i h1 (by omega)), h n (by omega) (by omega), Int32.add_zero]
    · have : m = n + 1 := by omega
      subst this; rfl
theorem givenBy_ok {c y : Nat} (hy : y < 17) {bits : Int32} {N : hn} : F_Rents_givenBy c (nI y) bits N = some (smS (fun p => if bt bits p then N.1 44 (y * 12 + p) else 0) 12, N) := by
  refine it_wp (B := B_Rents_givenBy_1 c) (z := fun _ _ _ _ _ => none) (fun K k (s : Int32) => K (nI y) bits s (nI k) N) 12 (fun k s => s = smS (fun p => if bt bits p then N.1 44 (y * 12 + p) else 0) k)
    (Q := fun x => x = some (smS (fun p => if bt bits p then N.1 44 (y * 12 + p) else 0) 12, N)) ?_ ?_ (n := hN) (k := 0) (s := 0) (by omega) (hN_big (by omega)) rfl
  · intro K s hs
    have g : (12 : Int32) ≤ nI 12 := by decide
    simp only [B_Rents_givenBy_1, g, ↓reduceIte, hs]
  · intro K k s hk hs
    right
    refine ⟨_, rfl, ?_⟩
    have g : ¬ (12 : Int32) ≤ nI k := nI_ge (b := 12) hk (by decide)
    have e : (nI y * (12 : Int32)) + nI k = nI (y * 12 + k) := by rw [show (12 : Int32) = nI 12 from rfl, nI_m, nI_a]
    have x1 : hn_ix 204 (nI (y * 12 + k)) = true := ix_ok (by omega) (by decide)
    have c1 : (nI (y * 12 + k)).toNatClampNeg = y * 12 + k := nI_lt31 (by omega)
    simp only [B_Rents_givenBy_1, g, ↓reduceIte, bt_sh (show k < 32 by omega), F_Rents_given, e, x1, hg_T, c1, hbN_e, hl_e, smS, hs, ← nI_succ]
    by_cases q2 : bt bits k = true
    · simp only [q2, ↓reduceIte]
    · have q2' : bt bits k = false := by simpa using q2
      simp [q2']
theorem rentsOf_ok {c P : Nat} (hP : P ≤ 12) {g : Int32} {N : hn} (h4 : N.1 82 4 = nI P) : F_Md_rentsOf c g N = some (smS (fun p => if N.1 88 p = g then N.1 91 p else 0) P, N) := by
  refine it_wp (B := B_Md_rentsOf_1 c) (z := fun _ _ _ _ => none) (fun K k (s : Int32) => K g s (nI k) N) P (fun k s => s = smS (fun p => if N.1 88 p = g then N.1 91 p else 0) k)
    (Q := fun x => x = some (smS (fun p => if N.1 88 p = g then N.1 91 p else 0) P, N)) ?_ ?_ (n := hN) (k := 0) (s := 0) (by omega) (hN_big (by omega)) rfl
  · intro K s hs
    have g : nI P ≤ nI P := Int32.le_refl _
    simp only [B_Md_rentsOf_1, panes_ok, hbN_e, h4, g, ↓reduceIte, hs]
  · intro K k s hk hs
    right
    refine ⟨_, rfl, ?_⟩
    have g1 : ¬ nI P ≤ nI k := nI_ge hk (by omega)
    have x1 : hn_ix 12 (nI k) = true := ix_ok (by omega) (by decide)
    have c1 : (nI k).toNatClampNeg = k := nI_lt31 (by omega)
    simp only [B_Md_rentsOf_1, B_Md_rentsOf_2, panes_ok, hbN_e, h4, g1, ↓reduceIte, ownerOf_ok (show k < 1000 by omega), x1, hg_T, c1, hl_e, smS, hs, ← nI_succ]
    by_cases q : N.1 88 k = g
    · simp only [q, ↓reduceIte]
    · simp only [q, ↓reduceIte]
