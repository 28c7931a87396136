/-! rows of places: the class goes from hour to hour -/
theorem go_3 {c : Nat} {ch : Nat → Int32} {law : Law} {N : hn} (h : RR c ch law N) {v : Nat} (hv : v = 56 ∨ v = 57) {f : Nat → Nat} (hf : ∀ j, j < 64 → N.1 v j = nI (f j)) {K : Int32 → Int32 → Int32 → Int32 → Int32 → Nat → Int32 → Int32 → hn → Option hn} {lit t cols fr to dir nn : Int32} :
    ∃ N', F_Walk_go_3 c K hN lit t cols fr to v dir nn (0 : Int32) N = (hvN (F_Walk_keepColoured c lit t cols (fr + (nn * dir)) v N') fun N2 => K lit t cols fr to v dir (nn + (1 : Int32)) N2) ∧ RR c ch law N' ∧ N'.1 88 = N.1 88 ∧ (∀ j, j < 64 → N'.1 v j = nI (arN f j)) ∧ ∀ b, b ≠ 58 → b ≠ v → N'.1 b = N.1 b := by
  have vb : 46 ≤ v ∧ v ≤ 58 := by omega
  refine it_wp (B := B_Walk_go_3 c K) (z := fun _ _ _ _ _ _ _ _ _ _ => none) (fun K' k (s : hn) => K' lit t cols fr to v dir nn (nI k) s) 64
    (fun k s => off1 58 N s ∧ ∀ j, j < k → s.1 58 j = nI (arN f j))
    (Q := fun x => ∃ N', x = (hvN (F_Walk_keepColoured c lit t cols (fr + (nn * dir)) v N') fun N2 => K lit t cols fr to v dir (nn + (1 : Int32)) N2) ∧ RR c ch law N' ∧ N'.1 88 = N.1 88 ∧ (∀ j, j < 64 → N'.1 v j = nI (arN f j)) ∧ ∀ b, b ≠ 58 → b ≠ v → N'.1 b = N.1 b) ?_ ?_ (n := hN) (k := 0) (s := N) (by omega) (hN_big (by omega)) ⟨off1.refl, fun j hj => absurd hj (Nat.not_lt_zero j)⟩
  · rintro K' s ⟨i1, i2⟩
    have g : (64 : Int32) ≤ nI 64 := by decide
    have ck : hm_cpok S0 58 (0 : Int32) v (0 : Int32) (64 : Int32) = true := by rcases hv with rfl | rfl <;> decide
    obtain ⟨N', eN⟩ : ∃ N', N' = hn_cp s 58 (0 : Int32) v (0 : Int32) (64 : Int32) := ⟨_, rfl⟩
    have cp : ∀ b j, N'.1 b j = if b = v ∧ 0 ≤ j ∧ j < 0 + 64 then s.1 58 (0 + (j - 0)) else s.1 b j := fun b j => by rw [eN]; rfl
    have oc : off1 v s N' := ⟨fun b hb => by funext j; rw [cp, if_neg (fun q => hb q.1)], by rw [eN]; rfl⟩
    refine ⟨N', ?_, (h.scr (by decide) i1).scr vb oc, ?_, ?_, ?_⟩
    · simp only [B_Walk_go_3, g, ↓reduceIte, ck, hg_T, hl_e]
      rw [← eN]
    · rw [oc.1 88 (by omega), i1.1 88 (by decide)]
    · intro j hj
      rw [cp, if_pos ⟨rfl, by omega, by omega⟩, show 0 + (j - 0) = j by omega]; exact i2 j hj
    · intro b b1 b2; rw [oc.1 b b2, i1.1 b b1]
  · rintro K' k s hk ⟨i1, i2⟩
    right
    have g : ¬ (64 : Int32) ≤ nI k := nI_ge (b := 64) hk (by decide)
    have c1 : (nI k).toNatClampNeg = k := nI_lt31 (by omega)
    have x1 : hn_ix 64 (nI k) = true := ix_ok hk (by decide)
    have ar := around_ok (c := c) hv hk (f := f) (N := s) (fun j hj => by rw [i1.1 v (by omega)]; exact hf j hj)
    refine ⟨hn_wI s 58 k (nI (arN f k)), ⟨i1.trans off1.w, ?_⟩, ?_⟩
    · intro j hj
      by_cases e : j = k
      · subst e; rw [wI_s]
      · rw [wI_n e]; exact i2 j (by omega)
    · simp only [B_Walk_go_3, g, ↓reduceIte, ar, hbN_e, x1, hg_T, c1, hl_e, ← nI_succ]
theorem go_ok {c : Nat} {ch : Nat → Int32} {law : Law} {N : hn} (h : RR c ch law N) {v fr to D t : Nat} (hv : v = 56 ∨ v = 57) {lit cols dir : Int32} {hs : Nat → Nat} (hl : ∀ i, i < 32 → bt lit i = (decide (i < nP ch) && !bt (N.1 88 12) i))
    (hD : hm_abs (nI to - nI fr) = nI D) (hD2 : D < 6) (hdir : ∀ n, n ≤ D → nI fr + (nI n * dir) = nI (hs n)) (h0 : hs 0 = fr) (h6 : ∀ n, n ≤ D → hs n < 6) (ht : ∀ n, n ≤ D → t + hs n < 1248) (hd : (if nI to < nI fr then (-1 : Int32) else 1) = dir) :
    ∃ N', F_Walk_go c lit (nI t) cols (nI fr) (nI to) v N = some N' ∧ RR c ch law N' ∧ N'.1 88 = N.1 88 ∧ atT c ch law (t + hs D) N' ∧ (∀ k, k < 64 → N'.1 v k = nI (wkN (fun n => mayS ch law (N.1 88) t cols (hs n)) D k)) ∧ ∀ b, 46 ≤ b → b ≤ 57 → b ≠ v → N'.1 b = N.1 b := by
  have vb : 46 ≤ v ∧ v ≤ 58 := by omega
  have lead : F_Walk_go c lit (nI t) cols (nI fr) (nI to) v N = B_Walk_go_1 c lit (nI t) cols (nI fr) (nI to) v dir N := by
    unfold F_Walk_go
    rw [← hd]
    by_cases q : nI to < nI fr
    · rw [if_pos q, if_pos q]
    · rw [if_neg q, if_neg q]
  obtain ⟨Na, f1, f2, f3⟩ := fill_ok (c := c) (v0 := v) (L := 64) (by rcases hv with rfl | rfl <;> rfl) (by decide) (by decide) (x := 1) (N := N)
  have hA := h.scr vb f2
  have a88 : Na.1 88 = N.1 88 := f2.1 88 (by omega)
  obtain ⟨Nb, k1, k2, k3, k4, k5, k6⟩ := keep_ok hA hv (t := t) (hr := fr) (by rw [← h0]; exact ht 0 (Nat.zero_le _)) (by rw [← h0]; exact h6 0 (Nat.zero_le _)) (lit := lit) (cols := cols) (by rw [a88]; exact hl)
  rw [a88] at k3 k5
  have lead2 : B_Walk_go_1 c lit (nI t) cols (nI fr) (nI to) v dir N = F_Walk_go_2 c hN lit (nI t) cols (nI fr) (nI to) v dir (1 : Int32) Nb := by
    simp only [B_Walk_go_1, f1, hvN_e, k1]
  rw [lead, lead2]
  refine it_wp (B := B_Walk_go_2 c) (z := fun _ _ _ _ _ _ _ _ _ => none) (fun K k (s : hn) => K lit (nI t) cols (nI fr) (nI to) v dir (nI (k + 1)) s) D
    (fun k s => RR c ch law s ∧ s.1 88 = N.1 88 ∧ atT c ch law (t + hs k) s ∧ (∀ j, j < 64 → s.1 v j = nI (wkN (fun n => mayS ch law (N.1 88) t cols (hs n)) k j)) ∧ ∀ b, 46 ≤ b → b ≤ 57 → b ≠ v → s.1 b = N.1 b)
    (Q := fun x => ∃ N', x = some N' ∧ RR c ch law N' ∧ N'.1 88 = N.1 88 ∧ atT c ch law (t + hs D) N' ∧ (∀ k, k < 64 → N'.1 v k = nI (wkN (fun n => mayS ch law (N.1 88) t cols (hs n)) D k)) ∧ ∀ b, 46 ≤ b → b ≤ 57 → b ≠ v → N'.1 b = N.1 b) ?_ ?_ (n := hN) (k := 0) (s := Nb) (by omega) (hN_big (by omega)) ⟨k2, k3, by rw [h0]; exact k4, ?_, ?_⟩
  · rintro K s ⟨i1, i2, i3, i4, i5⟩
    refine ⟨s, ?_, i1, i2, i3, i4, i5⟩
    have g : nI D < nI (D + 1) := nI_lt (by omega) (by omega)
    simp only [B_Walk_go_2, hD, g, ↓reduceIte]
  · rintro K k s hk ⟨i1, i2, i3, i4, i5⟩
    right
    have g : ¬ nI D < nI (k + 1) := nI_nlt (by omega) (by omega)
    obtain ⟨N1, a1, a2, a3, a4, a5⟩ := go_3 i1 hv i4 (K := K) (lit := lit) (t := nI t) (cols := cols) (fr := nI fr) (to := nI to) (dir := dir) (nn := nI (k + 1))
    obtain ⟨N2, b1, b2, b3, b4, b5, b6⟩ := keep_ok a2 hv (t := t) (hr := hs (k + 1)) (ht _ (by omega)) (h6 _ (by omega)) (lit := lit) (cols := cols) (by rw [a3, i2]; exact hl)
    rw [a3, i2] at b3 b5
    refine ⟨N2, ⟨b2, b3, b4, ?_, ?_⟩, ?_⟩
    · intro j hj
      rw [b5 j hj, wkN, a4 j hj]
      by_cases q : mayS ch law (N.1 88) t cols (hs (k + 1)) j = true
      · rw [if_pos q, if_pos q]
      · rw [if_neg q, if_neg q]; rfl
    · intro b q1 q2 q3; rw [b6 b q1 (by omega) q3, a5 b (by omega) q3, i5 b q1 q2 q3]
    · show B_Walk_go_2 c K lit (nI t) cols (nI fr) (nI to) v dir (nI (k + 1)) s = K lit (nI t) cols (nI fr) (nI to) v dir (nI (k + 1 + 1)) N2
      simp only [B_Walk_go_2, hD, g, ↓reduceIte]
      rw [a1, hdir (k + 1) (by omega), b1, hvN_e, ← nI_succ]
  · intro j hj
    rw [k5 j hj, f3 j hj, wkN, h0]
    by_cases q : mayS ch law (N.1 88) t cols fr j = true
    · rw [if_pos q, if_pos q]; rfl
    · rw [if_neg q, if_neg q]; rfl
  · intro b q1 q2 q3; rw [k6 b q1 (by omega) q3, f2.1 b q3]
theorem abs_nI : ∀ a, a < 6 → ∀ b, b < 6 → hm_abs (nI a - nI b) = nI ((a - b) + (b - a)) := by decide +kernel
theorem dir_m : ∀ a, a < 6 → ∀ n, n < 6 → n ≤ a → nI a + (nI n * (-1 : Int32)) = nI (a - n) := by decide +kernel
theorem go_fw {c : Nat} {ch : Nat → Int32} {law : Law} {N : hn} (h : RR c ch law N) {v to t : Nat} (hv : v = 56 ∨ v = 57) {lit cols : Int32} (hl : ∀ i, i < 32 → bt lit i = (decide (i < nP ch) && !bt (N.1 88 12) i)) (h6 : to < 6) (ht : t + to < 1248) :
    ∃ N', F_Walk_go c lit (nI t) cols (0 : Int32) (nI to) v N = some N' ∧ RR c ch law N' ∧ N'.1 88 = N.1 88 ∧ atT c ch law (t + to) N' ∧ (∀ k, k < 64 → N'.1 v k = nI (wkN (mayS ch law (N.1 88) t cols) to k)) ∧ ∀ b, 46 ≤ b → b ≤ 57 → b ≠ v → N'.1 b = N.1 b := by
  refine go_ok h (fr := 0) (to := to) (D := to) hv (dir := 1) (hs := fun n => n) hl ?_ h6 ?_ rfl (fun n hn1 => by show n < 6; omega) (fun n hn1 => by show t + n < 1248; omega) ?_
  · rw [abs_nI to h6 0 (by decide)]; congr 1; omega
  · intro n hn1; rw [show nI 0 = (0 : Int32) from rfl, Int32.zero_add, Int32.mul_one]
  · rw [if_neg (nI_nlt (by omega) (by omega))]
theorem go_bw {c : Nat} {ch : Nat → Int32} {law : Law} {N : hn} (h : RR c ch law N) {v fr to t : Nat} (hv : v = 56 ∨ v = 57) {lit cols : Int32} (hl : ∀ i, i < 32 → bt lit i = (decide (i < nP ch) && !bt (N.1 88 12) i)) (h6 : fr < 6) (hto : to ≤ fr) (ht : t + fr < 1248) :
    ∃ N', F_Walk_go c lit (nI t) cols (nI fr) (nI to) v N = some N' ∧ RR c ch law N' ∧ N'.1 88 = N.1 88 ∧ atT c ch law (t + to) N' ∧ (∀ k, k < 64 → N'.1 v k = nI (wkN (fun n => mayS ch law (N.1 88) t cols (fr - n)) (fr - to) k)) ∧ ∀ b, 46 ≤ b → b ≤ 57 → b ≠ v → N'.1 b = N.1 b := by
  by_cases e : to = fr
  · subst e
    have := go_ok h (fr := to) (to := to) (D := 0) hv (t := t) (cols := cols) (dir := 1) (hs := fun n => to - n) hl (by rw [abs_nI to h6 to h6]; congr 1; omega) (by decide) (fun n hn1 => by
      have : n = 0 := by omega
      subst this; rw [show nI 0 = (0 : Int32) from rfl, Int32.zero_mul, Int32.add_zero]; rfl) rfl (fun n hn1 => by show to - n < 6; omega) (fun n hn1 => by show t + (to - n) < 1248; omega) (by rw [if_neg (nI_nlt (by omega) (by omega))])
    rw [Nat.sub_self]
    exact this
  · have := go_ok h (fr := fr) (to := to) (D := fr - to) hv (t := t) (cols := cols) (dir := -1) (hs := fun n => fr - n) hl (by rw [abs_nI to (by omega) fr h6]; congr 1; omega) (by omega) (fun n hn1 => dir_m fr h6 n (by omega) (by omega)) rfl (fun n hn1 => by show fr - n < 6; omega) (fun n hn1 => by show t + (fr - n) < 1248; omega) (by rw [if_pos (nI_lt (by omega) (by omega))])
    obtain ⟨N', a1, a2, a3, a4, a5⟩ := this
    refine ⟨N', a1, a2, a3, ?_, a5⟩
    have : t + (fr - (fr - to)) = t + to := by omega
    rw [← this]; exact a4
theorem nI_sum {f : Nat → Nat} : ∀ {n : Nat} {g : Nat → Int32}, (∀ k, k < n → g k = nI (f k)) → smS g n = nI (fb_sm f n)
  | 0, _, _ => rfl
  | n + 1, g, h => by rw [smS, nI_sum (fun k hk => h k (by omega)), h n (by omega), nI_a]; rfl
theorem rows_ok {c : Nat} {ch : Nat → Int32} {law : Law} {N : hn} (h : RR c ch law N) {H t : Nat} {lit cols : Int32} (hl : ∀ i, i < 32 → bt lit i = (decide (i < nP ch) && !bt (N.1 88 12) i)) (h1 : 1 ≤ H) (h6 : H ≤ 6) (ht : t + H ≤ 1248) :
    ∃ N', F_Walk_rowsOf c lit (nI t) (nI H) cols N = some (nI (fb_sm (wkN (mayS ch law (N.1 88) t cols) (H - 1)) 64), N') ∧ RR c ch law N' ∧ N'.1 88 = N.1 88 := by
  obtain ⟨N1, a1, a2, a3, a4, a5, a6⟩ := go_fw h (v := 56) (to := H - 1) (t := t) (Or.inl rfl) (cols := cols) hl (by omega) (by omega)
  have e : nI H - (1 : Int32) = nI (H - 1) := nI_s (b := 1) (by omega)
  refine ⟨N1, ?_, a2, a3⟩
  simp only [F_Walk_rowsOf, e, a1, hvN_e]
  rw [← nI_sum (g := fun k => N1.1 56 k) a5]
  refine it_wp (B := B_Walk_rowsOf_1 c) (z := fun _ _ _ => none) (fun K k (s : Int32) => K s (nI k) N1) 64 (fun k s => s = smS (fun k => N1.1 56 k) k)
    (Q := fun x => x = some (smS (fun k => N1.1 56 k) 64, N1)) ?_ ?_ (n := hN) (k := 0) (s := 0) (by omega) (hN_big (by omega)) rfl
  · intro K s hs
    have g : (64 : Int32) ≤ nI 64 := by decide
    simp only [B_Walk_rowsOf_1, g, ↓reduceIte, hs]
  · intro K k s hk hs
    right
    refine ⟨_, rfl, ?_⟩
    have g : ¬ (64 : Int32) ≤ nI k := nI_ge (b := 64) hk (by decide)
    have c1 : (nI k).toNatClampNeg = k := nI_lt31 (by omega)
    have x1 : hn_ix 64 (nI k) = true := ix_ok hk (by decide)
    simp only [B_Walk_rowsOf_1, g, ↓reduceIte, x1, hg_T, c1, hl_e, smS, hs, ← nI_succ]
/-- by which places one goes at the i-th hour -/
def psS (ch : Nat → Int32) (law : Law) (st : Nat → Int32) (t : Nat) (cols : Int32) (H i k : Nat) : Bool :=
  decide (0 < wkN (mayS ch law st t cols) i k) && decide (0 < wkN (fun n => mayS ch law st t cols (H - 1 - n)) (H - 1 - i) k)
theorem meet_ok {c : Nat} {ch : Nat → Int32} {law : Law} {N : hn} (h : RR c ch law N) {H t i : Nat} {lit cols : Int32} (hl : ∀ i, i < 32 → bt lit i = (decide (i < nP ch) && !bt (N.1 88 12) i)) (h6 : H ≤ 6) (hi : i < H) (ht : t + H ≤ 1248) :
    ∃ N', F_Walk_meet c lit (nI t) (nI H) cols (nI i) N = some N' ∧ RR c ch law N' ∧ N'.1 88 = N.1 88 ∧ atT c ch law (t + i) N' ∧ ∀ k, k < 64 → F_Walk_passes c (nI k) N' = some ((if psS ch law (N.1 88) t cols H i k then 1 else 0), N') := by
  have e : nI H - (1 : Int32) = nI (H - 1) := nI_s (b := 1) (by omega)
  obtain ⟨N1, a1, a2, a3, a4, a5, a6⟩ := go_bw h (v := 57) (fr := H - 1) (to := i) (t := t) (Or.inr rfl) (cols := cols) hl (by omega) (by omega) (by omega)
  obtain ⟨N2, b1, b2, b3, b4, b5, b6⟩ := go_fw a2 (v := 56) (to := i) (t := t) (Or.inl rfl) (cols := cols) (by rw [a3]; exact hl) (by omega) (by omega)
  rw [a3] at b3 b5
  refine ⟨N2, ?_, b2, b3, b4, ?_⟩
  · simp only [F_Walk_meet, e, a1, hvN_e, b1]
  · intro k hk
    have x1 : hn_ix 64 (nI k) = true := ix_ok hk (by decide)
    have c1 : (nI k).toNatClampNeg = k := nI_lt31 (by omega)
    have w1 := wk_le (M := mayS ch law (N.1 88) t cols) i k hk
    have w2 := wk_le (M := fun n => mayS ch law (N.1 88) t cols (H - 1 - n)) (H - 1 - i) k hk
    have p1 : 5 ^ i ≤ 5 ^ 5 := Nat.pow_le_pow_right (by decide) (by omega)
    have p2 : 5 ^ (H - 1 - i) ≤ 5 ^ 5 := Nat.pow_le_pow_right (by decide) (by omega)
    have e57 : N2.1 57 k = nI (wkN (fun n => mayS ch law (N.1 88) t cols (H - 1 - n)) (H - 1 - i) k) := by rw [b6 57 (by decide) (by decide) (by decide)]; exact a5 k hk
    have pos : ∀ m, m ≤ 3125 → (nI m ≤ 0 ↔ ¬ 0 < m) := by
      intro m hm
      rw [show (0 : Int32) = nI 0 from rfl, nI_lei (by omega) (by decide)]; omega
    simp only [F_Walk_passes, x1, hg_T, c1, b5 k hk, e57]
    unfold psS
    by_cases q1 : 0 < wkN (mayS ch law (N.1 88) t cols) i k
    · have n1 : ¬ nI (wkN (mayS ch law (N.1 88) t cols) i k) ≤ 0 := fun z => (pos _ (by omega)).mp z q1
      by_cases q2 : 0 < wkN (fun n => mayS ch law (N.1 88) t cols (H - 1 - n)) (H - 1 - i) k
      · have n2 : ¬ nI (wkN (fun n => mayS ch law (N.1 88) t cols (H - 1 - n)) (H - 1 - i) k) ≤ 0 := fun z => (pos _ (by omega)).mp z q2
        simp [n1, n2, q1, q2]
      · have n2 : nI (wkN (fun n => mayS ch law (N.1 88) t cols (H - 1 - n)) (H - 1 - i) k) ≤ 0 := (pos _ (by omega)).mpr q2
        simp [n1, n2, q2]
    · have n1 : nI (wkN (mayS ch law (N.1 88) t cols) i k) ≤ 0 := (pos _ (by omega)).mpr q1
      simp [n1, q1]
