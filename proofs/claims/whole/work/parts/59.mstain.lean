/-! rows of places: the reference's side -/
theorem ib9 {v : Nat} (hv : v = 96 ∨ v = 97) {k : Nat} (hk : k < 384) : hm_ib S0 v .int (nI k) = true := by
  rcases hv with rfl | rfl
  · rw [ib_96]; exact ix_ok hk (by decide)
  · rw [ib_97]; exact ix_ok hk (by decide)
theorem near_ok {c v i k : Nat} (hv : v = 96 ∨ v = 97) (hi : i < 6) (hk : k < 64) {f : Nat → Nat} {N : hn} (hf : ∀ e, e < 64 → N.1 v (64 * i + e) = nI (f e)) : F_Md_near c v (nI i) (nI k) N = some (nI (arN f k), N) := by
  unfold arN
  refine it_wp (B := B_Md_near_1 c) (z := fun _ _ _ _ _ _ => none) (fun K e (s : Int32) => K v (nI i) (nI k) s (nI e) N) 64 (fun e s => s = nI (fb_sm (fun e => if dst k e ≤ 1 then f e else 0) e))
    (Q := fun x => x = some (nI (fb_sm (fun e => if dst k e ≤ 1 then f e else 0) 64), N)) ?_ ?_ (n := hN) (k := 0) (s := 0) (by omega) (hN_big (by omega)) rfl
  · intro K s hs
    have g : (64 : Int32) ≤ nI 64 := by decide
    simp only [B_Md_near_1, g, ↓reduceIte, hs]
  · intro K e s he hs
    right
    have g : ¬ (64 : Int32) ≤ nI e := nI_ge (b := 64) he (by decide)
    have d14 : dst k e ≤ 14 := by unfold dst; omega
    have e1 : ((64 : Int32) * nI i) + nI e = nI (64 * i + e) := by rw [show (64 : Int32) = nI 64 from rfl, nI_m, nI_a]
    have c1 : (nI (64 * i + e)).toNatClampNeg = 64 * i + e := nI_lt31 (by omega)
    by_cases q : dst k e ≤ 1
    · have g2 : ¬ (1 : Int32) < nI (dst k e) := nI_nlt (a := 1) q (by decide)
      refine ⟨s + nI (f e), ?_, ?_⟩
      · rw [fb_sm_succ, if_pos q, hs, nI_a]
      · simp only [B_Md_near_1, B_Md_near_2, g, ↓reduceIte, md_steps hk he, hbN_e, g2, e1, ib9 hv (show 64 * i + e < 384 by omega), hg_T, c1, hf e he, hl_e, ← nI_succ]
    · have g2 : (1 : Int32) < nI (dst k e) := nI_lt (a := 1) (by omega) (by omega)
      refine ⟨s + 0, ?_, ?_⟩
      · rw [fb_sm_succ, if_neg q, hs, Int32.add_zero]; rfl
      · simp only [B_Md_near_1, B_Md_near_2, g, ↓reduceIte, md_steps hk he, hbN_e, g2, hl_e, ← nI_succ]
theorem md_onP {c : Nat} {ch : Nat → Int32} {law : Law} {N : hn} (h : RR c ch law N) {k : Nat} (hk : k < 64) : F_Md_isPlace c (nI k) N = some ((if onP ch k then 1 else 0), N) := by
  obtain ⟨hW, hD, -, -, p0, p1, -, -⟩ := h.F
  have fin : ∀ b : Bool, F_Md_isOn c (nI (k % 8)) (nI (k / 8)) N = some ((if b then 1 else 0), N) → F_Md_isPlace c (nI k) N = some ((if b then 1 else 0), N) := by
    intro b hb
    simp only [F_Md_isPlace, div8 hk, mod8 hk, hb, hbN_e]
    cases b
    · simp only [Bool.false_eq_true, ↓reduceIte, true_or, hg_T]
    · simp only [↓reduceIte, or_true, hg_T]
  apply fin
  unfold onP
  by_cases q1 : k % 8 < nW ch
  · by_cases q2 : k / 8 < nD ch
    · rw [mdO_y (by omega) (by omega) q1 q2 p0 p1]; simp [q1, q2]
    · rw [mdO_n (W := nW ch) (D := nD ch) (by omega) (by omega) (fun z => by obtain ⟨-, g, g1, g2⟩ := z; have := (nI_eqi (by omega) (by omega)).mp g2; omega) p0 p1]; simp [q2]
  · rw [mdO_n (W := nW ch) (D := nD ch) (by omega) (by omega) (fun z => by obtain ⟨⟨g, g1, g2⟩, -⟩ := z; have := (nI_eqi (by omega) (by omega)).mp g2; omega) p0 p1]; simp [q1]
/-- what the reference holds of hours 0 .. i-1 -/
def stR (ch : Nat → Int32) (law : Law) (st : Nat → Int32) (t : Nat) (cols : Int32) (i kk : Nat) (N : hn) : Prop :=
  ∀ j k, k < 64 → (j < i ∨ (j = i ∧ k < kk)) → N.1 96 (64 * j + k) = nI (wkN (mayS ch law st t cols) j k) ∧ N.1 98 (64 * j + k) = (if mayS ch law st t cols j k then ownS ch law st (t + j) (nI k) else 0) ∧ N.1 97 (64 * j + k) = nI (if mayS ch law st t cols j k then 1 else 0)
theorem st_2 {c : Nat} {ch : Nat → Int32} {law : Law} {N0 N : hn} (h : RR c ch law N) (h0 : RR c ch law N0) (ho : offF N0 N) {w d H i : Nat} {cols : Int32} (hi : i < 6) {K : Int32 → Int32 → Int32 → Int32 → Int32 → hn → Option (Int32 × hn)} {t : Nat}
    (hf : ∀ p, p < nP ch → N.1 90 p = if bt (N0.1 88 12) p then -1 else spF ch law (t + i) p) (hr : stR ch law (N0.1 88) t cols i 0 N) :
    ∃ N', F_Md_findStains_2 c K hN (nI w) (nI d) (nI H) cols (nI i) (0 : Int32) N = K (nI w) (nI d) (nI H) cols (nI (i + 1)) N' ∧ stR ch law (N0.1 88) t cols (i + 1) 0 N' ∧ ∀ b, b ≠ 96 → b ≠ 97 → b ≠ 98 → N'.1 b = N.1 b ∧ N'.2 = N.2 := by
  have n88 : N.1 88 = N0.1 88 := ho.1 88 (by decide) (by decide) (by decide)
  refine it_wp (B := B_Md_findStains_2 c K) (z := fun _ _ _ _ _ _ _ => none) (fun K' k (s : hn) => K' (nI w) (nI d) (nI H) cols (nI i) (nI k) s) 64
    (fun k s => stR ch law (N0.1 88) t cols i k s ∧ (∀ b, b ≠ 96 → b ≠ 97 → b ≠ 98 → s.1 b = N.1 b) ∧ s.2 = N.2)
    (Q := fun x => ∃ N', x = K (nI w) (nI d) (nI H) cols (nI (i + 1)) N' ∧ stR ch law (N0.1 88) t cols (i + 1) 0 N' ∧ ∀ b, b ≠ 96 → b ≠ 97 → b ≠ 98 → N'.1 b = N.1 b ∧ N'.2 = N.2) ?_ ?_ (n := hN) (k := 0) (s := N) (by omega) (hN_big (by omega)) ⟨hr, fun _ _ _ _ => rfl, rfl⟩
  · rintro K' s ⟨i1, i2, i3⟩
    refine ⟨s, ?_, ?_, fun b q1 q2 q3 => ⟨i2 b q1 q2 q3, i3⟩⟩
    · have g : (64 : Int32) ≤ nI 64 := by decide
      simp only [B_Md_findStains_2, g, ↓reduceIte, ← nI_succ]
    · intro j k hk hj
      exact i1 j k hk (by omega)
  · rintro K' k s hk ⟨i1, i2, i3⟩
    right
    have g : ¬ (64 : Int32) ≤ nI k := nI_ge (b := 64) hk (by decide)
    have osc : offM N s := ⟨fun b _ _ _ q => i2 b (by omega) (by omega) (by omega), fun k _ _ => by rw [i2 76 (by decide) (by decide) (by decide)], fun b _ => by rw [i3]⟩
    have hs := h.qM osc
    have e1 : ((64 : Int32) * nI i) + nI k = nI (64 * i + k) := by rw [show (64 : Int32) = nI 64 from rfl, nI_m, nI_a]
    have e3 : (3 : Int32) * nI i = nI (3 * i) := by rw [show (3 : Int32) = nI 3 from rfl, nI_m]
    have c1 : (nI (64 * i + k)).toNatClampNeg = 64 * i + k := nI_lt31 (by omega)
    have x1 : hn_ix 384 (nI (64 * i + k)) = true := ix_ok (by omega) (by decide)
    have z : ¬ (1 : Int32) = 0 := by decide
    have os : offF N0 s ∨ True := Or.inr trivial
    have s90 : s.1 90 = N.1 90 := i2 90 (by decide) (by decide) (by decide)
    have s88 : s.1 88 = N0.1 88 := by rw [i2 88 (by decide) (by decide) (by decide)]; exact n88
    obtain ⟨hP, -, -, -, m4, -⟩ := hs.P
    obtain ⟨-, -, -, -, b7, -⟩ := id hs
    have on := on_md h0 (N' := s) hk (t := t + i) (by rw [s90]; exact hf)
    have l0 : F_Md_lightAt c (nI k) (0 : Int32) s = some (ownS ch law (N0.1 88) (t + i) (nI k), s) := by
      rw [lightAt_ok hP m4]
      simp only [↓reduceIte, s88]
      congr 2
      exact orF_cong on (fun _ _ _ => rfl)
    have l1 : F_Md_lightAt c (nI k) (1 : Int32) s = some (colS ch law (N0.1 88) (t + i) (nI k), s) := by
      rw [lightAt_ok hP m4]
      simp only [z, ↓reduceIte]
      congr 2
      exact orF_cong on (fun i hi _ => b7.1 _ (by omega))
    -- the three writes
    have fin : ∀ (o a b : Int32), (o = if mayS ch law (N0.1 88) t cols i k then ownS ch law (N0.1 88) (t + i) (nI k) else 0) → a = nI (wkN (mayS ch law (N0.1 88) t cols) i k) → (b = nI (if mayS ch law (N0.1 88) t cols i k then 1 else 0)) →
        (stR ch law (N0.1 88) t cols i (k + 1) (hn_wI (hn_wI (hn_wI s 98 (64 * i + k) o) 96 (64 * i + k) a) 97 (64 * i + k) b) ∧ (∀ q, q ≠ 96 → q ≠ 97 → q ≠ 98 → (hn_wI (hn_wI (hn_wI s 98 (64 * i + k) o) 96 (64 * i + k) a) 97 (64 * i + k) b).1 q = N.1 q) ∧ (hn_wI (hn_wI (hn_wI s 98 (64 * i + k) o) 96 (64 * i + k) a) 97 (64 * i + k) b).2 = N.2) := by
      intro o a b eo ea eb
      refine ⟨?_, fun q q1 q2 q3 => by rw [wI_o q2, wI_o q1, wI_o q3, i2 q q1 q2 q3], i3⟩
      intro j k' hk' hj
      by_cases e : 64 * j + k' = 64 * i + k
      · have e1 : j = i := by omega
        have e2 : k' = k := by omega
        subst e1; subst e2
        rw [wI_o (show (96 : Nat) ≠ 97 by decide), wI_s, wI_o (show (98 : Nat) ≠ 97 by decide), wI_o (show (98 : Nat) ≠ 96 by decide), wI_s, wI_s]
        exact ⟨ea, eo, eb⟩
      · rw [wI_n e, wI_n e, wI_n e, wI_n e, wI_n e, wI_n e, wI_n e, wI_n e, wI_n e]
        exact i1 j k' hk' (by omega)
    by_cases q : mayS ch law (N0.1 88) t cols i k = true
    · have q1 : onP ch k = true := by unfold mayS at q; simp only [Bool.and_eq_true, decide_eq_true_eq] at q; exact q.1
      have q2 : colS ch law (N0.1 88) (t + i) (nI k) = ((cols >>> (nI (3 * i) &&& 31)) &&& (7 : Int32)) := by unfold mayS at q; simp only [Bool.and_eq_true, decide_eq_true_eq] at q; exact q.2
      have head : B_Md_findStains_2 c K K' (nI w) (nI d) (nI H) cols (nI i) (nI k) s = B_Md_findStains_5 c K K' (nI w) (nI d) (nI H) cols (nI i) (nI k) (1 : Int32) (ownS ch law (N0.1 88) (t + i) (nI k)) (nI (64 * i + k)) s := by
        simp only [B_Md_findStains_2, g, ↓reduceIte, md_onP hs hk, q1, hbN_e, z, l1, e3, q2, B_Md_findStains_4, l0, e1]
      by_cases hi0 : i = 0
      · refine ⟨_, fin (ownS ch law (N0.1 88) (t + i) (nI k)) 1 1 (by rw [if_pos q]) ?_ (by rw [if_pos q]; rfl), ?_⟩
        · subst hi0; rw [wkN, if_pos q]; rfl
        · show B_Md_findStains_2 c K K' (nI w) (nI d) (nI H) cols (nI i) (nI k) s = K' (nI w) (nI d) (nI H) cols (nI i) (nI (k + 1)) _
          have i0 : nI i = (0 : Int32) := by rw [hi0]; rfl
          rw [head]
          simp only [B_Md_findStains_5, B_Md_findStains_6, B_Md_findStains_7, x1, hg_T, c1, hl_e, z, i0, ↓reduceIte, ← nI_succ]
          rw [← i0]
          simp only [e1, x1, hg_T, c1]
      · obtain ⟨i', rfl⟩ : ∃ i', i = i' + 1 := ⟨i - 1, by omega⟩
        have i0 : ¬ nI (i' + 1) = (0 : Int32) := nI_ne0 (by omega) (by omega)
        have em : nI (i' + 1) - (1 : Int32) = nI i' := nI_pred i'
        have nr := near_ok (c := c) (v := 96) (i := i') (k := k) (Or.inl rfl) (by omega) hk (f := wkN (mayS ch law (N0.1 88) t cols) i') (N := hn_wI s 98 (64 * (i' + 1) + k) (ownS ch law (N0.1 88) (t + (i' + 1)) (nI k))) (fun e he => by rw [wI_o (by decide)]; exact (i1 i' e he (by omega)).1)
        refine ⟨_, fin (ownS ch law (N0.1 88) (t + (i' + 1)) (nI k)) (nI (arN (wkN (mayS ch law (N0.1 88) t cols) i') k)) 1 (by rw [if_pos q]) ?_ (by rw [if_pos q]; rfl), ?_⟩
        · rw [wkN, if_pos q]
        · show B_Md_findStains_2 c K K' (nI w) (nI d) (nI H) cols (nI (i' + 1)) (nI k) s = K' (nI w) (nI d) (nI H) cols (nI (i' + 1)) (nI (k + 1)) _
          rw [head]
          simp only [B_Md_findStains_5, B_Md_findStains_6, B_Md_findStains_7, x1, hg_T, c1, hl_e, z, i0, em, nr, hbN_e, e1, ↓reduceIte]
          rw [← nI_succ]
    · have q' : mayS ch law (N0.1 88) t cols i k = false := by simpa using q
      have head : B_Md_findStains_2 c K K' (nI w) (nI d) (nI H) cols (nI i) (nI k) s = B_Md_findStains_5 c K K' (nI w) (nI d) (nI H) cols (nI i) (nI k) (0 : Int32) (0 : Int32) (nI (64 * i + k)) s := by
        by_cases q1 : onP ch k = true
        · have q2 : ¬ colS ch law (N0.1 88) (t + i) (nI k) = ((cols >>> (nI (3 * i) &&& 31)) &&& (7 : Int32)) := fun z => q (by unfold mayS hcS; simp [q1, z])
          simp only [B_Md_findStains_2, B_Md_findStains_3, g, ↓reduceIte, md_onP hs hk, q1, hbN_e, z, l1, e3, q2, B_Md_findStains_4, e1]
        · have q1' : onP ch k = false := by simpa using q1
          simp only [B_Md_findStains_2, B_Md_findStains_3, g, ↓reduceIte, md_onP hs hk, q1', Bool.false_eq_true, hbN_e, B_Md_findStains_4, e1]
      refine ⟨_, fin 0 0 0 (by rw [q']; rfl) ?_ (by rw [q']; rfl), ?_⟩
      · cases i with
        | zero => rw [wkN, q']; rfl
        | succ i => rw [wkN, q']; rfl
      · show B_Md_findStains_2 c K K' (nI w) (nI d) (nI H) cols (nI i) (nI k) s = K' (nI w) (nI d) (nI H) cols (nI i) (nI (k + 1)) _
        rw [head]
        simp only [B_Md_findStains_5, B_Md_findStains_6, B_Md_findStains_7, x1, hg_T, c1, hl_e, e1, ↓reduceIte]
        rw [← nI_succ]
/-- behind: the rows from an hour on -/
def bhS (ch : Nat → Int32) (law : Law) (st : Nat → Int32) (t : Nat) (cols : Int32) (H j k : Nat) : Nat := wkN (fun n => mayS ch law st t cols (H - 1 - n)) (H - 1 - j) k
theorem st_8 {c : Nat} {ch : Nat → Int32} {law : Law} {st : Nat → Int32} {N : hn} {t H : Nat} {cols : Int32} (h1 : 1 ≤ H) (h6 : H ≤ 6) (hr : stR ch law st t cols H 0 N) :
    ∃ N', F_Md_findStains_8 c hN (nI (H - 1) - (1 : Int32)) N = some (nI (fb_sm (bhS ch law st t cols H 0) 64), N') ∧ off1 97 N N' ∧ ∀ j k, j < H → k < 64 → N'.1 97 (64 * j + k) = nI (bhS ch law st t cols H j k) := by
  refine it_wp (B := B_Md_findStains_8 c) (z := fun _ _ => none) (fun K j (s : hn) => K (nI (H - 1 - j) - (1 : Int32)) s) (H - 1)
    (fun j s => off1 97 N s ∧ (∀ i k, i < H → k < 64 → H - 1 - j ≤ i → s.1 97 (64 * i + k) = nI (bhS ch law st t cols H i k)) ∧ (∀ i k, k < 64 → i < H - 1 - j → s.1 97 (64 * i + k) = nI (if mayS ch law st t cols i k then 1 else 0)))
    (Q := fun x => ∃ N', x = some (nI (fb_sm (bhS ch law st t cols H 0) 64), N') ∧ off1 97 N N' ∧ ∀ j k, j < H → k < 64 → N'.1 97 (64 * j + k) = nI (bhS ch law st t cols H j k)) ?_ ?_ (n := hN) (k := 0) (s := N) (by omega) (hN_big (by omega)) ⟨off1.refl, ?_, ?_⟩
  · rintro K s ⟨i1, i2, i3⟩
    refine ⟨s, ?_, i1, fun j k hj hk => i2 j k hj hk (by omega)⟩
    have g : nI (H - 1 - (H - 1)) - (1 : Int32) < 0 := by rw [Nat.sub_self]; decide
    simp only [B_Md_findStains_8, g, ↓reduceIte]
    rw [← nI_sum (g := fun k => s.1 97 k) (fun k hk => by have := i2 0 k (by omega) hk (by omega); rwa [Nat.mul_zero, Nat.zero_add] at this)]
    refine it_wp (B := B_Md_findStains_11 c) (z := fun _ _ _ => none) (fun K k (q : Int32) => K q (nI k) s) 64 (fun k q => q = smS (fun k => s.1 97 k) k)
      (Q := fun x => x = some (smS (fun k => s.1 97 k) 64, s)) ?_ ?_ (n := hN) (k := 0) (s := 0) (by omega) (hN_big (by omega)) rfl
    · intro K q hq
      have g : (64 : Int32) ≤ nI 64 := by decide
      simp only [B_Md_findStains_11, g, ↓reduceIte, hq]
    · intro K k q hk hq
      right
      refine ⟨_, rfl, ?_⟩
      have g : ¬ (64 : Int32) ≤ nI k := nI_ge (b := 64) hk (by decide)
      have c1 : (nI k).toNatClampNeg = k := nI_lt31 (by omega)
      have x1 : hn_ix 384 (nI k) = true := ix_ok (by omega) (by decide)
      simp only [B_Md_findStains_11, g, ↓reduceIte, x1, hg_T, c1, hl_e, smS, hq, ← nI_succ]
  · rintro K j s hj ⟨i1, i2, i3⟩
    right
    obtain ⟨m, hm⟩ : ∃ m, H - 1 - j = m + 1 := ⟨H - 1 - j - 1, by omega⟩
    have e0 : nI (H - 1 - j) - (1 : Int32) = nI m := by rw [hm]; exact nI_pred m
    have e2 : H - 1 - (j + 1) = m := by omega
    have g0 : ¬ nI m < 0 := nI_nn (by omega)
    have inner : ∃ s', F_Md_findStains_9 c K hN (nI m) (0 : Int32) s = K (nI m + (-1 : Int32)) s' ∧ off1 97 s s' ∧ (∀ k, k < 64 → s'.1 97 (64 * m + k) = nI (bhS ch law st t cols H m k)) ∧ ∀ q, (q < 64 * m ∨ 64 * m + 64 ≤ q) → s'.1 97 q = s.1 97 q := by
      refine it_wp (B := B_Md_findStains_9 c K) (z := fun _ _ _ => none) (fun K' k (s' : hn) => K' (nI m) (nI k) s') 64
        (fun k s' => off1 97 s s' ∧ (∀ k', k' < k → s'.1 97 (64 * m + k') = nI (bhS ch law st t cols H m k')) ∧ (∀ k', k ≤ k' → s'.1 97 (64 * m + k') = s.1 97 (64 * m + k')) ∧ ∀ q, (q < 64 * m ∨ 64 * m + 64 ≤ q) → s'.1 97 q = s.1 97 q)
        (Q := fun x => ∃ s', x = K (nI m + (-1 : Int32)) s' ∧ off1 97 s s' ∧ (∀ k, k < 64 → s'.1 97 (64 * m + k) = nI (bhS ch law st t cols H m k)) ∧ ∀ q, (q < 64 * m ∨ 64 * m + 64 ≤ q) → s'.1 97 q = s.1 97 q) ?_ ?_ (n := hN) (k := 0) (s := s) (by omega) (hN_big (by omega)) ⟨off1.refl, fun k' hk' => absurd hk' (Nat.not_lt_zero k'), fun _ _ => rfl, fun _ _ => rfl⟩
      · rintro K' s' ⟨j1, j2, j3, j4⟩
        refine ⟨s', ?_, j1, j2, j4⟩
        have g : (64 : Int32) ≤ nI 64 := by decide
        simp only [B_Md_findStains_9, g, ↓reduceIte]
      · rintro K' k s' hk ⟨j1, j2, j3, j4⟩
        right
        have g : ¬ (64 : Int32) ≤ nI k := nI_ge (b := 64) hk (by decide)
        have e1 : ((64 : Int32) * nI m) + nI k = nI (64 * m + k) := by rw [show (64 : Int32) = nI 64 from rfl, nI_m, nI_a]
        have c1 : (nI (64 * m + k)).toNatClampNeg = 64 * m + k := nI_lt31 (by omega)
        have x1 : hn_ix 384 (nI (64 * m + k)) = true := ix_ok (by omega) (by decide)
        have v0 : s'.1 97 (64 * m + k) = nI (if mayS ch law st t cols m k then 1 else 0) := by rw [j3 k (Nat.le_refl _)]; exact i3 m k hk (by omega)
        have bh : bhS ch law st t cols H m k = if mayS ch law st t cols m k then arN (bhS ch law st t cols H (m + 1)) k else 0 := by
          unfold bhS
          obtain ⟨r, hr'⟩ : ∃ r, H - 1 - m = r + 1 := ⟨H - 1 - m - 1, by omega⟩
          rw [hr', wkN, show H - 1 - (r + 1) = m by omega, show H - 1 - (m + 1) = r by omega]
        have upd : ∀ v : Int32, v = nI (bhS ch law st t cols H m k) → (off1 97 s (hn_wI s' 97 (64 * m + k) v) ∧ (∀ k', k' < k + 1 → (hn_wI s' 97 (64 * m + k) v).1 97 (64 * m + k') = nI (bhS ch law st t cols H m k')) ∧ (∀ k', k + 1 ≤ k' → (hn_wI s' 97 (64 * m + k) v).1 97 (64 * m + k') = s.1 97 (64 * m + k')) ∧ ∀ q, (q < 64 * m ∨ 64 * m + 64 ≤ q) → (hn_wI s' 97 (64 * m + k) v).1 97 q = s.1 97 q) := by
          intro v hv
          refine ⟨j1.trans off1.w, ?_, ?_, ?_⟩
          · intro k' hk'
            by_cases e : k' = k
            · subst e; rw [wI_s, hv]
            · rw [wI_n (by omega)]; exact j2 k' (by omega)
          · intro k' hk'; rw [wI_n (by omega)]; exact j3 k' (by omega)
          · intro q hq; rw [wI_n (by omega)]; exact j4 q hq
        by_cases q : mayS ch law st t cols m k = true
        · rw [if_pos q] at v0 bh
          have n0 : ¬ nI 1 = (0 : Int32) := by decide
          have em : nI m + (1 : Int32) = nI (m + 1) := (nI_succ m).symm
          have nr := near_ok (c := c) (v := 97) (i := m + 1) (k := k) (Or.inr rfl) (by omega) hk (f := bhS ch law st t cols H (m + 1)) (N := s') (fun e he => by rw [j4 _ (by omega)]; exact i2 (m + 1) e (by omega) he (by omega))
          refine ⟨_, upd (nI (arN (bhS ch law st t cols H (m + 1)) k)) (by rw [bh]), ?_⟩
          simp only [B_Md_findStains_9, B_Md_findStains_10, g, ↓reduceIte, e1, x1, hg_T, c1, v0, n0, em, nr, hbN_e, hl_e, ← nI_succ]
        · rw [if_neg q] at v0 bh
          have n0 : nI 0 = (0 : Int32) := rfl
          refine ⟨_, upd 0 (by rw [bh]; rfl), ?_⟩
          simp only [B_Md_findStains_9, B_Md_findStains_10, g, ↓reduceIte, e1, x1, hg_T, c1, v0, n0, hl_e, ← nI_succ]
    obtain ⟨s', w1, w2, w3, w4⟩ := inner
    refine ⟨s', ⟨i1.trans w2, ?_, ?_⟩, ?_⟩
    · intro i k hi hk hle
      by_cases e : i = m
      · subst e; exact w3 k hk
      · rw [w4 _ (by omega)]; exact i2 i k hi hk (by omega)
    · intro i k hk hi
      rw [w4 _ (by omega)]; exact i3 i k hk (by omega)
    · show B_Md_findStains_8 c K (nI (H - 1 - j) - (1 : Int32)) s = K (nI (H - 1 - (j + 1)) - (1 : Int32)) s'
      rw [e0, e2]
      simp only [B_Md_findStains_8, g0, ↓reduceIte]
      rw [w1, Int32.sub_eq_add_neg]
  · intro i k hi hk hle
    have e : i = H - 1 := by omega
    subst e
    rw [(hr (H - 1) k hk (Or.inl (by omega))).2.2]
    unfold bhS
    rw [Nat.sub_self, wkN, show H - 1 - 0 = H - 1 by omega]
  · intro i k hk hi
    exact (hr i k hk (Or.inl (by omega))).2.2
theorem stains_md {c : Nat} {ch : Nat → Int32} {law : Law} {N : hn} (h : RR c ch law N) {w d H : Nat} {cols : Int32} (hw : w < 52) (hd : d + H ≤ 24) (h1 : 1 ≤ H) (h6 : H ≤ 6) :
    ∃ N', F_Md_findStains c (nI w) (nI d) (nI H) cols N = some (nI (fb_sm (bhS ch law (N.1 88) (w * 24 + d) cols H 0) 64), N') ∧ RR c ch law N' ∧
      ∀ j k, j < H → k < 64 → N'.1 96 (64 * j + k) = nI (wkN (mayS ch law (N.1 88) (w * 24 + d) cols) j k) ∧ N'.1 98 (64 * j + k) = (if mayS ch law (N.1 88) (w * 24 + d) cols j k then ownS ch law (N.1 88) (w * 24 + d + j) (nI k) else 0) ∧ N'.1 97 (64 * j + k) = nI (bhS ch law (N.1 88) (w * 24 + d) cols H j k) := by
  refine it_wp (B := B_Md_findStains_1 c) (z := fun _ _ _ _ _ _ => none) (fun K i (s : hn) => K (nI w) (nI d) (nI H) cols (nI i) s) H
    (fun i s => RR c ch law s ∧ s.1 88 = N.1 88 ∧ stR ch law (N.1 88) (w * 24 + d) cols i 0 s)
    (Q := fun x => ∃ N', x = some (nI (fb_sm (bhS ch law (N.1 88) (w * 24 + d) cols H 0) 64), N') ∧ RR c ch law N' ∧
      ∀ j k, j < H → k < 64 → N'.1 96 (64 * j + k) = nI (wkN (mayS ch law (N.1 88) (w * 24 + d) cols) j k) ∧ N'.1 98 (64 * j + k) = (if mayS ch law (N.1 88) (w * 24 + d) cols j k then ownS ch law (N.1 88) (w * 24 + d + j) (nI k) else 0) ∧ N'.1 97 (64 * j + k) = nI (bhS ch law (N.1 88) (w * 24 + d) cols H j k)) ?_ ?_ (n := hN) (k := 0) (s := N) (by omega) (hN_big (by omega)) ⟨h, rfl, fun j k _ hj => absurd hj (by omega)⟩
  · rintro K s ⟨i1, i2, i3⟩
    obtain ⟨N', a1, a2, a3⟩ := st_8 (c := c) h1 h6 i3
    have g : nI H ≤ nI H := Int32.le_refl _
    have e2 : nI H - (2 : Int32) = nI (H - 1) - (1 : Int32) := by
      have : nI H = nI (H - 1) + 1 := by rw [← nI_succ]; congr 1; omega
      rw [this, Int32.sub_eq_add_neg, Int32.sub_eq_add_neg, Int32.add_assoc]; rfl
    have osc : offM s N' := ⟨fun b _ _ _ q => a2.1 b (by omega), fun k _ _ => by rw [a2.1 76 (by decide)], fun b _ => by rw [a2.2]⟩
    refine ⟨N', ?_, i1.qM osc, ?_⟩
    · simp only [B_Md_findStains_1, g, ↓reduceIte, hl_e, e2]
      exact a1
    · intro j k hj hk
      rw [a2.1 96 (by decide), a2.1 98 (by decide)]
      have := i3 j k hk (Or.inl hj)
      exact ⟨this.1, this.2.1, a3 j k hj hk⟩
  · rintro K i s hi ⟨i1, i2, i3⟩
    right
    have g : ¬ nI H ≤ nI i := nI_ge hi (by omega)
    have e1 : nI d + nI i = nI (d + i) := nI_a d i
    obtain ⟨N1, f1, f2, f3, f4⟩ := i1.find hw (d := d + i) (by omega)
    rw [show w * 24 + (d + i) = w * 24 + d + i by omega] at f4
    have i3' : stR ch law (s.1 88) (w * 24 + d) cols i 0 N1 := by
      intro j k hk hj
      rw [i2, f3.1 96 (by decide) (by decide) (by decide), f3.1 97 (by decide) (by decide) (by decide), f3.1 98 (by decide) (by decide) (by decide)]
      exact i3 j k hk hj
    obtain ⟨N2, w1, w2, w3⟩ := st_2 (c := c) f2 i1 f3 (w := w) (d := d) (H := H) (cols := cols) (i := i) (by omega) (K := K) f4 i3'
    rw [i2] at w2
    have osc : offM N1 N2 := ⟨fun b _ _ _ q => (w3 b (by omega) (by omega) (by omega)).1, fun k _ _ => by rw [(w3 76 (by decide) (by decide) (by decide)).1], fun b _ => by rw [(w3 76 (by decide) (by decide) (by decide)).2]⟩
    refine ⟨N2, ⟨f2.qM osc, ?_, w2⟩, ?_⟩
    · rw [(w3 88 (by decide) (by decide) (by decide)).1, f3.1 88 (by decide) (by decide) (by decide)]; exact i2
    · simp only [B_Md_findStains_1, g, ↓reduceIte, e1, f1, hvN_e]
      exact w1
