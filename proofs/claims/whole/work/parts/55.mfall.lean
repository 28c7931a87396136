/-! answers: fallen, falls: the reference's side -/
def offW (N N' : hn) : Prop := (∀ b, b ≠ 76 → b ≠ 86 → b ≠ 87 → b ≠ 90 → b ≠ 91 → b ≠ 94 → N'.1 b = N.1 b) ∧ (∀ k, k ≠ 23 → N'.1 76 k = N.1 76 k) ∧ N'.2 = N.2
theorem offW.refl {N : hn} : offW N N := ⟨fun _ _ _ _ _ _ _ => rfl, fun _ _ => rfl, rfl⟩
theorem offW.trans {N N1 N2 : hn} (h : offW N N1) (h2 : offW N1 N2) : offW N N2 := ⟨fun b a1 a2 a3 a4 a5 a6 => (h2.1 b a1 a2 a3 a4 a5 a6).trans (h.1 b a1 a2 a3 a4 a5 a6), fun k hk => (h2.2.1 k hk).trans (h.2.1 k hk), h2.2.2.trans h.2.2⟩
theorem offW.ofA {N N' : hn} (h : offA N N') : offW N N' := ⟨fun b _ a2 a3 a4 a5 _ => h.1 b a2 a3 a4 a5, fun k _ => by rw [h.1 76 (by decide) (by decide) (by decide) (by decide)], h.2⟩
theorem offW.w94 {i : Nat} {v : Int32} {N : hn} : offW N (hn_wI N 94 i v) := ⟨fun _ _ _ _ _ _ h1 => wI_o h1, fun _ _ => by rw [wI_o (by decide)], rfl⟩
theorem offW.w23 {v : Int32} {N : hn} : offW N (hn_wI N 76 23 v) := ⟨fun _ h1 _ _ _ _ _ => wI_o h1, fun _ hk => wI_n hk, rfl⟩
theorem gives_md {c P : Nat} (hP : P ≤ 12) {K25 : Int32 → Int32 → hn → Option hn} {K43 : Int32 → Int32 → Int32 → Int32 → hn → Option hn} {v1 v2 v3 : Int32} {g : Nat} (hg : g < 6) {N : hn} (m4 : N.1 82 4 = nI P) :
    F_Md_findFalls_4 c K25 K43 hN v1 v2 v3 (nI g) (0 : Int32) (0 : Int32) N = (if N.1 94 g = 0 then (if anyF (fun p => decide (N.1 88 p = nI g) && !bt (N.1 88 12) p) P = false then K43 v1 v2 v3 (nI (g + 1)) N else hbN (F_Md_rentsOf c (nI g) N) fun r4 N3 => (if N3.1 82 (6 + 2 * g) ≤ r4 then K43 v1 v2 v3 (nI (g + 1)) N3
      else K43 v1 (1 : Int32) (v3 ||| ((1 : Int32) <<< (nI g &&& 31))) (nI (g + 1)) (hn_wI N3 94 g v1))) else K43 v1 v2 v3 (nI (g + 1)) N) := by
  refine it_wp (B := B_Md_findFalls_4 c K25 K43) (z := fun _ _ _ _ _ _ _ => none) (fun K k (q : Int32) => K v1 v2 v3 (nI g) q (nI k) N) P
    (fun k q => q = if anyF (fun p => decide (N.1 88 p = nI g) && !bt (N.1 88 12) p) k then 1 else 0)
    (Q := fun x => x = (if N.1 94 g = 0 then (if anyF (fun p => decide (N.1 88 p = nI g) && !bt (N.1 88 12) p) P = false then K43 v1 v2 v3 (nI (g + 1)) N else hbN (F_Md_rentsOf c (nI g) N) fun r4 N3 => (if N3.1 82 (6 + 2 * g) ≤ r4 then K43 v1 v2 v3 (nI (g + 1)) N3
      else K43 v1 (1 : Int32) (v3 ||| ((1 : Int32) <<< (nI g &&& 31))) (nI (g + 1)) (hn_wI N3 94 g v1))) else K43 v1 v2 v3 (nI (g + 1)) N)) ?_ ?_ (n := hN) (k := 0) (s := 0) (by omega) (hN_big (by omega)) rfl
  · intro K q hq
    have g1 : nI P ≤ nI P := Int32.le_refl _
    have x1 : hn_ix 6 (nI g) = true := ix_ok hg (by decide)
    have c1 : (nI g).toNatClampNeg = g := nI_lt31 (by omega)
    have e5 : ((5 : Int32) + ((2 : Int32) * nI g)) + (1 : Int32) = nI (6 + 2 * g) := by
      rw [show (5 : Int32) = nI 5 from rfl, show (2 : Int32) = nI 2 from rfl, show (1 : Int32) = nI 1 from rfl, nI_m, nI_a, nI_a]; exact congrArg nI (by omega)
    have x2 : hn_ix 160 (nI (6 + 2 * g)) = true := ix_ok (by omega) (by decide)
    have c2 : (nI (6 + 2 * g)).toNatClampNeg = 6 + 2 * g := nI_lt31 (by omega)
    have z : ¬ (1 : Int32) = 0 := by decide
    simp only [B_Md_findFalls_4, panes_ok, hbN_e, m4, g1, ↓reduceIte, x1, hg_T, c1, e5, x2, c2, hl_e, ← nI_succ]
    by_cases q0 : anyF (fun p => decide (N.1 88 p = nI g) && !bt (N.1 88 12) p) P = true
    · rw [hq, q0]; simp only [↓reduceIte, z, Bool.true_eq_false]
    · have q1 : anyF (fun p => decide (N.1 88 p = nI g) && !bt (N.1 88 12) p) P = false := by simpa using q0
      rw [hq, q1]; simp only [Bool.false_eq_true, ↓reduceIte]
  · intro K k q hk hq
    right
    have g1 : ¬ nI P ≤ nI k := nI_ge hk (by omega)
    have z : ¬ (1 : Int32) = 0 := by decide
    by_cases q0 : anyF (fun p => decide (N.1 88 p = nI g) && !bt (N.1 88 12) p) k = true
    · refine ⟨1, ?_, ?_⟩
      · rw [anyF, q0]; simp
      · rw [q0, if_pos rfl] at hq
        subst hq
        simp only [B_Md_findFalls_4, B_Md_findFalls_6, panes_ok, hbN_e, m4, g1, ↓reduceIte, z, ← nI_succ]
    · have q1 : anyF (fun p => decide (N.1 88 p = nI g) && !bt (N.1 88 12) p) k = false := by simpa using q0
      rw [q1] at hq
      simp only [Bool.false_eq_true, ↓reduceIte] at hq
      subst hq
      by_cases o : N.1 88 k = nI g
      · by_cases b : bt (N.1 88 12) k = true
        · refine ⟨0, ?_, ?_⟩
          · rw [anyF, q1, b]; simp
          · simp only [B_Md_findFalls_4, B_Md_findFalls_5, B_Md_findFalls_6, panes_ok, hbN_e, m4, g1, ↓reduceIte, ownerOf_ok (show k < 1000 by omega), o, isBroken_ok (show k < 32 by omega), b, z, ← nI_succ]
        · have b' : bt (N.1 88 12) k = false := by simpa using b
          refine ⟨1, ?_, ?_⟩
          · rw [anyF, q1, b', o]; simp
          · simp only [B_Md_findFalls_4, B_Md_findFalls_5, B_Md_findFalls_6, panes_ok, hbN_e, m4, g1, ↓reduceIte, ownerOf_ok (show k < 1000 by omega), o, isBroken_ok (show k < 32 by omega), b', Bool.false_eq_true, ← nI_succ]
      · refine ⟨0, ?_, ?_⟩
        · rw [anyF, q1]; simp [o]
        · simp only [B_Md_findFalls_4, B_Md_findFalls_5, B_Md_findFalls_6, panes_ok, hbN_e, m4, g1, ↓reduceIte, ownerOf_ok (show k < 1000 by omega), o, ← nI_succ]
/-- what a round of the reference begins with -/
def frS (ch : Nat → Int32) (law : Law) (N0 : hn) (n : Nat) (N : hn) : Prop :=
  offW N0 N ∧ (∀ g, g < 6 → N.1 94 g = nI (raS ch law (N0.1 88) n g)) ∧ ∀ g, g < 6 → bt (N.1 76 23) g = !decide (raS ch law (N0.1 88) n g = 0)
theorem round_md {c : Nat} {ch : Nat → Int32} {law : Law} {N0 N : hn} (h : RR c ch law N0) {n : Nat} (hn6 : n ≤ 7) (hr : frS ch law N0 n N) {K : Int32 → Int32 → hn → Option hn} {v2 : Int32} (hv2 : ¬ v2 = 0) :
    ∃ N', B_Md_findFalls_2 c K (nI n) v2 N = K (nI (n + 1)) (if anyF (fnS ch law (N0.1 88) (raS ch law (N0.1 88) n)) (nG ch) then 1 else 0) N' ∧ frS ch law N0 (n + 1) N' := by
  obtain ⟨hP, hG, -, -, m4, m3, -, -⟩ := h.P
  obtain ⟨-, a2, a3, -, a7, -⟩ := id h
  obtain ⟨r1, r2, r3⟩ := hr
  have n88 : N.1 88 = N0.1 88 := r1.1 88 (by decide) (by decide) (by decide) (by decide) (by decide) (by decide)
  have o82 : N.1 82 = N0.1 82 := r1.1 82 (by decide) (by decide) (by decide) (by decide) (by decide) (by decide)
  have hm : mchap ch law N := a7.off o82 (r1.1 83 (by decide) (by decide) (by decide) (by decide) (by decide) (by decide)) (r1.1 84 (by decide) (by decide) (by decide) (by decide) (by decide) (by decide))
  have ho : ownM ch N := by unfold ownM; rw [n88]; exact h.own
  obtain ⟨N2, w1, w2, w3⟩ := findYields_ok (c := c) a2 a3 hm ho
  have hY : ∀ q, q < nP ch → N2.1 91 q = YF ch law (N0.1 88) (raS ch law (N0.1 88) n) q := by
    intro q hq
    rw [w3 q hq]
    apply yldS_cong _ a2
    intro p hp
    obtain ⟨o, o1, o2⟩ := h.own p hp
    unfold litB litF
    rw [n88, o2, nI_lt31 (by omega), r3 o (by omega)]
    simp
  have p88 : N2.1 88 = N0.1 88 := by rw [w2.1 88 (by decide) (by decide) (by decide) (by decide)]; exact n88
  have p94 : N2.1 94 = N.1 94 := w2.1 94 (by decide) (by decide) (by decide) (by decide)
  have p76 : N2.1 76 = N.1 76 := w2.1 76 (by decide) (by decide) (by decide) (by decide)
  have p82 : N2.1 82 = N0.1 82 := by rw [w2.1 82 (by decide) (by decide) (by decide) (by decide)]; exact o82
  have lead : B_Md_findFalls_2 c K (nI n) v2 N = F_Md_findFalls_3 c K hN (nI (n + 1)) (0 : Int32) (0 : Int32) (0 : Int32) N2 := by
    simp only [B_Md_findFalls_2, hv2, ↓reduceIte, w1, hvN_e, ← nI_succ]
  rw [lead]
  refine it_wp (B := B_Md_findFalls_3 c K) (z := fun _ _ _ _ _ => none) (fun K' k (s : Int32 × Int32 × hn) => K' (nI (n + 1)) s.1 s.2.1 (nI k) s.2.2) (nG ch)
    (fun k s => (s.1 = if anyF (fnS ch law (N0.1 88) (raS ch law (N0.1 88) n)) k then 1 else 0) ∧ (∀ i, i < 32 → bt s.2.1 i = (decide (i < k) && fnS ch law (N0.1 88) (raS ch law (N0.1 88) n) i)) ∧
      off1 94 N2 s.2.2 ∧ ∀ g, g < 6 → s.2.2.1 94 g = nI (if g < k then raS ch law (N0.1 88) (n + 1) g else raS ch law (N0.1 88) n g))
    (Q := fun x => ∃ N', x = K (nI (n + 1)) (if anyF (fnS ch law (N0.1 88) (raS ch law (N0.1 88) n)) (nG ch) then 1 else 0) N' ∧ frS ch law N0 (n + 1) N') ?_ ?_ (n := hN) (k := 0) (s := (0, 0, N2)) (by omega) (hN_big (by omega)) ⟨rfl, fun i hi => by rw [b_0]; simp, off1.refl, fun g hg => by rw [if_neg (by omega)]; show N2.1 94 g = _; rw [p94]; exact r2 g hg⟩
  · rintro K' ⟨fl, more, s⟩ ⟨i1, i2, i3, i4⟩
    dsimp only at i1 i2 i3 i4
    have s3 : s.1 82 3 = nI (nG ch) := by rw [i3.1 82 (by decide), p82]; exact m3
    have g : nI (nG ch) ≤ nI (nG ch) := Int32.le_refl _
    have s23 : s.1 76 23 = N.1 76 23 := by rw [i3.1 76 (by decide), p76]
    refine ⟨hn_wI s 76 23 (N.1 76 23 ||| more), ?_, ⟨?_, ?_, ?_⟩⟩
    · simp only [B_Md_findFalls_3, guilds_ok, hbN_e, s3, g, ↓reduceIte, hl_e, s23, i1]
    · refine r1.trans ((offW.ofA w2).trans (offW.trans ⟨fun b a1 _ _ _ _ a6 => i3.1 b a6, fun k _ => by rw [i3.1 76 (by decide)], i3.2⟩ offW.w23))
    · intro g hg
      rw [wI_o (by decide), i4 g hg]
      by_cases e : g < nG ch
      · rw [if_pos e]
      · rw [if_neg e, raS_out (by omega), raS_out (by omega)]
    · intro g hg
      rw [wI_s, b_or, r3 g hg, i2 g (by omega)]
      by_cases e : g < nG ch
      · rw [raS, if_pos e]
        by_cases q : fnS ch law (N0.1 88) (raS ch law (N0.1 88) n) g = true
        · simp [e, q]
        · have q' : fnS ch law (N0.1 88) (raS ch law (N0.1 88) n) g = false := by simpa using q
          simp [q']
      · rw [raS_out (by omega), raS_out (by omega)]; simp [e]
  · rintro K' k ⟨fl, more, s⟩ hk ⟨i1, i2, i3, i4⟩
    dsimp only at i1 i2 i3 i4
    right
    have s3 : s.1 82 3 = nI (nG ch) := by rw [i3.1 82 (by decide), p82]; exact m3
    have s4 : s.1 82 4 = nI (nP ch) := by rw [i3.1 82 (by decide), p82]; exact m4
    have g1 : ¬ nI (nG ch) ≤ nI k := nI_ge hk (by omega)
    have s88 : s.1 88 = N0.1 88 := by rw [i3.1 88 (by decide)]; exact p88
    have s94 : s.1 94 k = nI (raS ch law (N0.1 88) n k) := by rw [i4 k (by omega), if_neg (by omega)]
    have hrs : F_Md_rentsOf c (nI k) s = some (rnS ch (N0.1 88) (YF ch law (N0.1 88) (raS ch law (N0.1 88) n)) k, s) := by
      rw [rentsOf_ok hP s4]
      congr 2
      unfold rnS
      apply smS_cong
      intro i hi
      rw [s88, i3.1 91 (by decide), hY i hi]
    have sow : s.1 82 (6 + 2 * k) = ch (6 + 2 * k) := by rw [i3.1 82 (by decide), p82]; exact a7.1 _ (by omega)
    have step : B_Md_findFalls_3 c K K' (nI (n + 1)) fl more (nI k) s = F_Md_findFalls_4 c K K' hN (nI (n + 1)) fl more (nI k) (0 : Int32) (0 : Int32) s := by
      simp only [B_Md_findFalls_3, guilds_ok, hbN_e, s3, g1, ↓reduceIte]
    have gv : anyF (fun p => decide (s.1 88 p = nI k) && !bt (s.1 88 12) p) (nP ch) = gvS ch (N0.1 88) k := by rw [s88]; rfl
    have rl := raS_le (ch := ch) (law := law) (st := N0.1 88) n k
    have keep : fnS ch law (N0.1 88) (raS ch law (N0.1 88) n) k = false → ((fl = if anyF (fnS ch law (N0.1 88) (raS ch law (N0.1 88) n)) (k + 1) then 1 else 0) ∧ (∀ i, i < 32 → bt more i = (decide (i < k + 1) && fnS ch law (N0.1 88) (raS ch law (N0.1 88) n) i)) ∧
        off1 94 N2 s ∧ ∀ g, g < 6 → s.1 94 g = nI (if g < k + 1 then raS ch law (N0.1 88) (n + 1) g else raS ch law (N0.1 88) n g)) := by
      intro hf
      refine ⟨?_, ?_, i3, ?_⟩
      · rw [anyF, hf, Bool.or_false]; exact i1
      · intro i hi
        rw [i2 i hi]
        by_cases e : i = k
        · subst e; rw [hf]; simp
        · have : (i < k + 1) ↔ i < k := by omega
          simp [this]
      · intro g hg
        rw [i4 g hg]
        by_cases e : g = k
        · subst e; rw [if_neg (by omega), if_pos (by omega), raS, if_pos hk, hf]; simp
        · by_cases q : g < k
          · rw [if_pos q, if_pos (by omega)]
          · rw [if_neg q, if_neg (by omega)]
    by_cases hra : raS ch law (N0.1 88) n k = 0
    · have z94 : s.1 94 k = 0 := by rw [s94, hra]; rfl
      by_cases hgv : gvS ch (N0.1 88) k = true
      · by_cases how : ch (6 + 2 * k) ≤ rnS ch (N0.1 88) (YF ch law (N0.1 88) (raS ch law (N0.1 88) n)) k
        · have hf : fnS ch law (N0.1 88) (raS ch law (N0.1 88) n) k = false := by unfold fnS; simp [how]
          refine ⟨(fl, more, s), keep hf, ?_⟩
          rw [step, gives_md hP (by omega) s4, if_pos z94, gv, hgv, if_neg (by decide), hrs, hbN_e, sow, if_pos how]
        · have hf : fnS ch law (N0.1 88) (raS ch law (N0.1 88) n) k = true := by unfold fnS; simp [how, hra, hgv]
          refine ⟨(1, more ||| ((1 : Int32) <<< (nI k &&& 31)), hn_wI s 94 k (nI (n + 1))), ⟨?_, ?_, i3.trans off1.w, ?_⟩, ?_⟩
          · show (1 : Int32) = _; rw [anyF, hf]; simp
          · intro i hi
            show bt (more ||| ((1 : Int32) <<< (nI k &&& 31))) i = _
            rw [b_or, i2 i hi, bt_1sh (by omega) hi]
            by_cases e : i = k
            · subst e; rw [hf]; simp
            · have : (i < k + 1) ↔ i < k := by omega
              simp [this, e]
          · intro g hg
            show (hn_wI s 94 k (nI (n + 1))).1 94 g = _
            by_cases e : g = k
            · subst e; rw [wI_s, if_pos (by omega), raS, if_pos hk, if_pos hf]
            · rw [wI_n e, i4 g hg]
              by_cases q : g < k
              · rw [if_pos q, if_pos (by omega)]
              · rw [if_neg q, if_neg (by omega)]
          · rw [step, gives_md hP (by omega) s4, if_pos z94, gv, hgv, if_neg (by decide), hrs, hbN_e, sow, if_neg how]
      · have hgv' : gvS ch (N0.1 88) k = false := by simpa using hgv
        have hf : fnS ch law (N0.1 88) (raS ch law (N0.1 88) n) k = false := by unfold fnS; simp [hgv']
        refine ⟨(fl, more, s), keep hf, ?_⟩
        rw [step, gives_md hP (by omega) s4, if_pos z94, gv, hgv', if_pos rfl]
    · have z94 : ¬ s.1 94 k = 0 := by rw [s94]; exact nI_ne0 (by omega) (by omega)
      have hf : fnS ch law (N0.1 88) (raS ch law (N0.1 88) n) k = false := by unfold fnS; simp [hra]
      refine ⟨(fl, more, s), keep hf, ?_⟩
      rw [step, gives_md hP (by omega) s4, if_neg z94]
theorem falls_md {c : Nat} {ch : Nat → Int32} {law : Law} {N : hn} (h : RR c ch law N) : ∃ N', F_Md_findFalls c N = some N' ∧ RR c ch law N' ∧ ∀ g, g < 6 → N'.1 94 g = nI (raS ch law (N.1 88) 6 g) := by
  obtain ⟨hP, hG, -⟩ := h.P
  have rcle : ∀ n, rcS ch law (N.1 88) n ≤ 6 := fun n => by
    have := fb_ct_le (fun g => !decide (raS ch law (N.1 88) n g = 0)) (nG ch)
    unfold rcS; omega
  have hd : N.1 76 23 = 0 := by obtain ⟨-, -, -, -, -, -, -, -, -, a12, -⟩ := h; exact a12
  have wh : ∀ X, frS ch law N 0 X → ∃ N', F_Md_findFalls_2 c hN (0 : Int32) (1 : Int32) X = some N' ∧ offW N N' ∧ N'.1 76 23 = 0 ∧ ∀ g, g < 6 → N'.1 94 g = nI (raS ch law (N.1 88) 6 g) := by
    intro X hX
    refine it_ms (B := B_Md_findFalls_2 c) (z := fun _ _ _ => none) (fun K (s : Int32 × Int32 × hn) => K s.1 s.2.1 s.2.2)
      (fun m s => ∃ n, s.1 = nI n ∧ frS ch law N n s.2.2 ∧ ((s.2.1 = 1 ∧ n ≤ rcS ch law (N.1 88) n ∧ m + n = 8) ∨ (s.2.1 = 0 ∧ ∃ n', n = n' + 1 ∧ n' ≤ 6 ∧ raS ch law (N.1 88) (n' + 1) = raS ch law (N.1 88) n' ∧ m = 0)))
      (Q := fun x => ∃ N', x = some N' ∧ offW N N' ∧ N'.1 76 23 = 0 ∧ ∀ g, g < 6 → N'.1 94 g = nI (raS ch law (N.1 88) 6 g)) ?_ (n := hN) (m := 8) (s := (0, 1, X)) (hN_big (by decide)) ⟨0, rfl, hX, Or.inl ⟨rfl, Nat.zero_le _, rfl⟩⟩
    rintro K m ⟨v1, v2, s⟩ ⟨n, e1, hr, ⟨e2, e3, e4⟩ | ⟨e2, n', e3, e4, e5, e6⟩⟩
    · dsimp only at e1 hr e2
      right
      subst e1
      have hn6 : n ≤ 6 := Nat.le_trans e3 (rcle n)
      obtain ⟨N', w1, w2⟩ := round_md h (c := c) (n := n) (by omega) hr (K := K) (v2 := v2) (by rw [e2]; decide)
      by_cases q : anyF (fnS ch law (N.1 88) (raS ch law (N.1 88) n)) (nG ch) = true
      · rw [q, if_pos rfl] at w1
        obtain ⟨g, g1, g2⟩ := anyF_iff.mp q
        have gr := rc_grow g1 g2
        exact ⟨m - 1, (nI (n + 1), 1, N'), by omega, ⟨n + 1, rfl, w2, Or.inl ⟨rfl, by omega, by omega⟩⟩, w1⟩
      · have q' : anyF (fnS ch law (N.1 88) (raS ch law (N.1 88) n)) (nG ch) = false := by simpa using q
        rw [q'] at w1
        simp only [Bool.false_eq_true, ↓reduceIte] at w1
        refine ⟨0, (nI (n + 1), 0, N'), by omega, ⟨n + 1, rfl, w2, Or.inr ⟨rfl, n, rfl, hn6, ?_, rfl⟩⟩, w1⟩
        funext g
        rw [raS]
        by_cases hg : g < nG ch
        · have : fnS ch law (N.1 88) (raS ch law (N.1 88) n) g = false := by
            by_cases z : fnS ch law (N.1 88) (raS ch law (N.1 88) n) g = true
            · exact absurd (anyF_iff.mpr ⟨g, hg, z⟩) q
            · simpa using z
          rw [if_pos hg, this]; simp
        · rw [if_neg hg, raS_out (by omega)]
    · dsimp only at e1 hr e2
      left
      subst e3
      obtain ⟨r1, r2, r3⟩ := hr
      refine ⟨hn_wI s 76 23 0, ?_, r1.trans offW.w23, wI_s, ?_⟩
      · simp only [B_Md_findFalls_2, e2, ↓reduceIte, hl_e]
      · intro g hg
        rw [wI_o (by decide), r2 g hg, e5]
        have := raS_stable e5 (6 - n')
        rw [show n' + (6 - n') = 6 by omega] at this
        rw [this]
  have all : ∃ N', F_Md_findFalls c N = some N' ∧ offW N N' ∧ N'.1 76 23 = 0 ∧ ∀ g, g < 6 → N'.1 94 g = nI (raS ch law (N.1 88) 6 g) := by
    refine it_wp (B := B_Md_findFalls_1 c) (z := fun _ _ => none) (fun K k (s : hn) => K (nI k) s) 6 (fun k s => off1 94 N s ∧ ∀ g, g < k → s.1 94 g = 0)
      (Q := fun x => ∃ N', x = some N' ∧ offW N N' ∧ N'.1 76 23 = 0 ∧ ∀ g, g < 6 → N'.1 94 g = nI (raS ch law (N.1 88) 6 g)) ?_ ?_ (n := hN) (k := 0) (s := N) (by omega) (hN_big (by omega)) ⟨off1.refl, fun g hg => absurd hg (Nat.not_lt_zero g)⟩
    · rintro K s ⟨i1, i2⟩
      obtain ⟨N', w1, w2⟩ := wh s ⟨⟨fun b _ _ _ _ _ a6 => i1.1 b a6, fun k _ => by rw [i1.1 76 (by decide)], i1.2⟩, fun g hg => i2 g hg, fun g hg => by rw [i1.1 76 (by decide), hd, b_0]; simp [raS]⟩
      refine ⟨N', ?_, w2⟩
      have g : (6 : Int32) ≤ nI 6 := by decide
      simp only [B_Md_findFalls_1, g, ↓reduceIte]
      exact w1
    · rintro K k s hk ⟨i1, i2⟩
      right
      have g : ¬ (6 : Int32) ≤ nI k := nI_ge (b := 6) hk (by decide)
      have x1 : hn_ix 6 (nI k) = true := ix_ok hk (by decide)
      have c1 : (nI k).toNatClampNeg = k := nI_lt31 (by omega)
      refine ⟨hn_wI s 94 k 0, ⟨i1.trans off1.w, ?_⟩, ?_⟩
      · intro i hi
        by_cases q : i = k
        · subst q; rw [wI_s]
        · rw [wI_n q]; exact i2 i (by omega)
      · simp only [B_Md_findFalls_1, g, ↓reduceIte, x1, hg_T, c1, hl_e, ← nI_succ]
  obtain ⟨N', w1, w2, w3, w4⟩ := all
  refine ⟨N', w1, h.qM ⟨fun b a1 a2 a3 a4 => w2.1 b a1 a2 a3 (by omega) (by omega) (by omega), fun k _ _ => ?_, fun b _ => by rw [w2.2.2]⟩, w4⟩
  by_cases e : k = 23
  · subst e; rw [w3, hd]
  · exact w2.2.1 k e
theorem a_falls {c : Nat} {ch : Nat → Int32} {law : Law} {N : hn} (h : RR c ch law N) (v : Int32) : alike c ch law (F_Ps_falls c v) (F_Md_falls c v) N := by
  obtain ⟨hP, hG, -, -, -, -, -, p3⟩ := h.P
  have z : ¬ (1 : Int32) = 0 := by decide
  by_cases hv : inR (nG ch) v
  · obtain ⟨g, hg, rfl⟩ := hv
    have x1 : hn_ix 6 (nI g) = true := ix_ok (by omega) (by decide)
    have c1 : (nI g).toNatClampNeg = g := nI_lt31 (by omega)
    obtain ⟨N1, b1, b2, b3, b4⟩ := fall_ps h
    have hX := b2.thr (v := 0)
    obtain ⟨-, -, -, -, -, x3, -, -⟩ := hX.P
    obtain ⟨N2, d1, d2, d3⟩ := falls_md hX
    rw [wI_o (by decide), b3] at d3
    refine ⟨nI (raS ch law (N.1 88) 6 g), N1, N2, ?_, ?_, d2⟩
    · simp only [F_Ps_falls, psG_y (show nG ch < 2147483648 by omega) hg p3, hbN_e, z, ↓reduceIte, b1, hvN_e, x1, hg_T, c1, b4 g (by omega)]
    · simp only [F_Md_falls, hl_e, mdG_y (show nG ch < 2147483648 by omega) hg x3, hbN_e, z, ↓reduceIte, d1, hvN_e, x1, hg_T, c1, d3 g (by omega)]
  · have hX := h.thr (v := 0)
    obtain ⟨-, -, -, -, -, x3, -, -⟩ := hX.P
    refine ⟨-1, N, _, ?_, ?_, hX⟩
    · simp only [F_Ps_falls, psG_n (show nG ch < 2147483648 by omega) hv p3, hbN_e, ↓reduceIte]
    · simp only [F_Md_falls, hl_e, mdG_n (show nG ch < 2147483648 by omega) hv x3, hbN_e, ↓reduceIte]
theorem a_fallen {c : Nat} {ch : Nat → Int32} {law : Law} {N : hn} (h : RR c ch law N) : alike c ch law (F_Ps_fallen c) (F_Md_fallen c) N := by
  obtain ⟨hP, hG, -⟩ := h.P
  obtain ⟨N1, b1, b2, b3, b4⟩ := fall_ps h
  have hX := b2.thr (v := 0)
  obtain ⟨N2, d1, d2, d3⟩ := falls_md hX
  obtain ⟨-, -, -, -, -, x3, -, -⟩ := d2.P
  rw [wI_o (by decide), b3] at d3
  have rl := fun g => raS_le (ch := ch) (law := law) (st := N.1 88) 6 g
  refine ⟨bitsF (fun g => !decide (raS ch law (N.1 88) 6 g = 0)) 6, N1, N2, ?_, ?_, d2⟩
  · simp only [F_Ps_fallen, b1, hvN_e]
    refine it_wp (B := B_Ps_fallen_1 c) (z := fun _ _ _ => none) (fun K k (s : Int32) => K s (nI k) N1) 6 (fun k s => s = bitsF (fun g => !decide (raS ch law (N.1 88) 6 g = 0)) k)
      (Q := fun x => x = some (bitsF (fun g => !decide (raS ch law (N.1 88) 6 g = 0)) 6, N1)) ?_ ?_ (n := hN) (k := 0) (s := 0) (by omega) (hN_big (by omega)) rfl
    · intro K s hs
      have g : (6 : Int32) ≤ nI 6 := by decide
      simp only [B_Ps_fallen_1, g, ↓reduceIte, hs]
    · intro K k s hk hs
      right
      refine ⟨_, rfl, ?_⟩
      have g : ¬ (6 : Int32) ≤ nI k := nI_ge (b := 6) hk (by decide)
      have x1 : hn_ix 6 (nI k) = true := ix_ok hk (by decide)
      have c1 : (nI k).toNatClampNeg = k := nI_lt31 (by omega)
      have r := rl k
      simp only [B_Ps_fallen_1, g, ↓reduceIte, x1, hg_T, c1, b4 k hk, hl_e, bitsF, hs, ← nI_succ]
      by_cases q : raS ch law (N.1 88) 6 k = 0
      · have q1 : nI (raS ch law (N.1 88) 6 k) ≤ 0 := by rw [q]; decide
        simp only [q1, ↓reduceIte]
        simp [q, or_0]
      · have q1 : ¬ nI (raS ch law (N.1 88) 6 k) ≤ 0 := nI_nle (by omega) (by omega)
        simp only [q1, ↓reduceIte]
        simp [q]
  · simp only [F_Md_fallen, hl_e, d1, hvN_e]
    have ex : bitsF (fun g => !decide (raS ch law (N.1 88) 6 g = 0)) 6 = bitsF (fun g => !decide (raS ch law (N.1 88) 6 g = 0)) (nG ch) := bitsF_ext hG (fun i h1 _ => by rw [raS_out h1]; simp)
    rw [ex]
    refine it_wp (B := B_Md_fallen_1 c) (z := fun _ _ _ => none) (fun K k (s : Int32) => K s (nI k) N2) (nG ch) (fun k s => s = bitsF (fun g => !decide (raS ch law (N.1 88) 6 g = 0)) k)
      (Q := fun x => x = some (bitsF (fun g => !decide (raS ch law (N.1 88) 6 g = 0)) (nG ch), N2)) ?_ ?_ (n := hN) (k := 0) (s := 0) (by omega) (hN_big (by omega)) rfl
    · intro K s hs
      have g : nI (nG ch) ≤ nI (nG ch) := Int32.le_refl _
      simp only [B_Md_fallen_1, guilds_ok, hbN_e, x3, g, ↓reduceIte, hs]
    · intro K k s hk hs
      right
      refine ⟨_, rfl, ?_⟩
      have g : ¬ nI (nG ch) ≤ nI k := nI_ge hk (by omega)
      have x1 : hn_ix 6 (nI k) = true := ix_ok (by omega) (by decide)
      have c1 : (nI k).toNatClampNeg = k := nI_lt31 (by omega)
      have r := rl k
      simp only [B_Md_fallen_1, B_Md_fallen_2, guilds_ok, hbN_e, x3, g, ↓reduceIte, x1, hg_T, c1, d3 k (by omega), hl_e, bitsF, hs, ← nI_succ]
      by_cases q : raS ch law (N.1 88) 6 k = 0
      · have q1 : nI (raS ch law (N.1 88) 6 k) ≤ 0 := by rw [q]; decide
        simp only [q1, ↓reduceIte]
        simp [q]
      · have q1 : ¬ nI (raS ch law (N.1 88) 6 k) ≤ 0 := nI_nle (by omega) (by omega)
        simp only [q1, ↓reduceIte]
        simp [q]
