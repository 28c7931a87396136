/-! the way of a stall: the class's side -/
theorem over_ok {c f hr p a : Nat} (hf : f < 64) (hp : p < 64) (hh : hr < 24) {N : hn} (e : N.1 53 (hr * 64 + p) = nI a) : F_Way_stepsOver c (nI f) (nI hr) (nI p) N = some (nI (dst f p + a), N) := by
  have n1 : ¬ nI f = (-1 : Int32) := nI_nm (by omega)
  have e1 : (nI hr * (64 : Int32)) + nI p = nI (hr * 64 + p) := by rw [show (64 : Int32) = nI 64 from rfl, nI_m, nI_a]
  have x1 : hn_ix 1536 (nI (hr * 64 + p)) = true := ix_ok (by omega) (by decide)
  have c1 : (nI (hr * 64 + p)).toNatClampNeg = hr * 64 + p := nI_lt31 (by omega)
  simp only [F_Way_stepsOver, n1, ↓reduceIte, ps_steps hf hp, hbN_e, B_Way_stepsOver_1, e1, x1, hg_T, c1, e, nI_a]
theorem over_0 {c hr p a : Nat} (hp : p < 64) (hh : hr < 24) {N : hn} (e : N.1 53 (hr * 64 + p) = nI a) : F_Way_stepsOver c (-1 : Int32) (nI hr) (nI p) N = some (nI a, N) := by
  have e1 : (nI hr * (64 : Int32)) + nI p = nI (hr * 64 + p) := by rw [show (64 : Int32) = nI 64 from rfl, nI_m, nI_a]
  have x1 : hn_ix 1536 (nI (hr * 64 + p)) = true := ix_ok (by omega) (by decide)
  have c1 : (nI (hr * 64 + p)).toNatClampNeg = hr * 64 + p := nI_lt31 (by omega)
  simp only [F_Way_stepsOver, ↓reduceIte, B_Way_stepsOver_1, e1, x1, hg_T, c1, e, Int32.zero_add]
/-- where to be next: the first with the fewest steps -/
theorem next_ok {c hr : Nat} (hh : hr < 24) {S : Nat → Bool} {f : Nat → Nat} {from' : Int32} {N : hn} (hS : ∀ p, p < 64 → bL (N.2 52 hr) p = S p) (hf : ∀ p, p < 64 → S p = true → F_Way_stepsOver c from' (nI hr) (nI p) N = some (nI (f p), N)) (hf2 : ∀ p, p < 64 → S p = true → f p < BIG) :
    F_Way_nextFrom c from' (nI hr) N = some (nI (agF S f 64), N) := by
  have x1 : hn_ix 24 (nI hr) = true := ix_ok hh (by decide)
  have c0 : (nI hr).toNatClampNeg = hr := nI_lt31 (by omega)
  have bg : BIG = 1000000 := rfl
  refine it_wp (B := B_Way_nextFrom_1 c) (z := fun _ _ _ _ _ _ => none) (fun K k (s : Int32 × Int32) => K from' (nI hr) s.1 s.2 (nI k) N) 64 (fun k s => s.1 = nI (agF S f k) ∧ s.2 = nI (mnF S f k))
    (Q := fun x => x = some (nI (agF S f 64), N)) ?_ ?_ (n := hN) (k := 0) (s := (0, 1000000)) (by omega) (hN_big (by omega)) ⟨rfl, rfl⟩
  · rintro K ⟨a, b⟩ ⟨h1, h2⟩
    dsimp only at h1 h2
    have g : (64 : Int32) ≤ nI 64 := by decide
    simp only [B_Way_nextFrom_1, g, ↓reduceIte, h1]
  · rintro K k ⟨a, b⟩ hk ⟨h1, h2⟩
    dsimp only at h1 h2
    right
    have g : ¬ (64 : Int32) ≤ nI k := nI_ge (b := 64) hk (by decide)
    have ml := mn_le (S := S) (f := f) k
    by_cases q : S k = true
    · have t1 : (lg_cmp (((N.2 52 hr).toUInt64 >>> ((nI k).toInt64.toUInt64 &&& Int64.toUInt64 63)).toInt64 &&& (1 : Int64)) (1 : Int64)) = 0 := (bL_t hk).mpr (by rw [hS k hk]; exact q)
      have fk := hf2 k hk q
      by_cases q2 : f k < mnF S f k
      · have g2 : ¬ nI (mnF S f k) ≤ nI (f k) := nI_ge q2 (by omega)
        refine ⟨(nI k, nI (f k)), ⟨by rw [agF, if_pos ⟨q, q2⟩], by rw [mnF, if_pos ⟨q, q2⟩]⟩, ?_⟩
        simp only [B_Way_nextFrom_1, g, ↓reduceIte, x1, hg_T, c0, t1, hf k hk q, hbN_e, h2, g2, ← nI_succ]
      · have g2 : nI (mnF S f k) ≤ nI (f k) := nI_le (by omega) (by omega)
        refine ⟨(a, b), ⟨by rw [agF, if_neg (fun z => q2 z.2)]; exact h1, by rw [mnF, if_neg (fun z => q2 z.2)]; exact h2⟩, ?_⟩
        simp only [B_Way_nextFrom_1, g, ↓reduceIte, x1, hg_T, c0, t1, hf k hk q, hbN_e, h2, g2, ← nI_succ]
    · have t1 : ¬ (lg_cmp (((N.2 52 hr).toUInt64 >>> ((nI k).toInt64.toUInt64 &&& Int64.toUInt64 63)).toInt64 &&& (1 : Int64)) (1 : Int64)) = 0 := fun z => q (by rw [← hS k hk]; exact (bL_t hk).mp z)
      refine ⟨(a, b), ⟨by rw [agF, if_neg (fun z => q z.1)]; exact h1, by rw [mnF, if_neg (fun z => q z.1)]; exact h2⟩, ?_⟩
      simp only [B_Way_nextFrom_1, g, ↓reduceIte, x1, hg_T, c0, t1, ← nI_succ]
/-- what the class holds of hours from h on -/
def ahR (S : Nat → Nat → Bool) (H h : Nat) (N : hn) : Prop := ∀ i k, i < H → h ≤ i → k < 64 → S i k = true → N.1 53 (i * 64 + k) = nI (cR S H (H - 1 - i) k)
theorem ahead_ok {c H h : Nat} (hH : H ≤ 24) (hh : h < H) {S : Nat → Nat → Bool} (hS : ∀ h, ∃ k, k < 64 ∧ S h k = true) {fl : Int64} {F : Nat → Bool} {N : hn} (hF : ∀ k, k < 64 → bL fl k = F k) (hSF : ∀ h k, k < 64 → S h k = true → F k = true)
    (hst : ∀ i, i < H → ∀ p, p < 64 → bL (N.2 52 i) p = S i p) (ha : ahR S H (h + 1) N) :
    ∃ N', F_Way_lookAhead c (nI h) (nI (H - 1)) fl N = some N' ∧ off1 53 N N' ∧ ahR S H h N' := by
  have x1 : hn_ix 24 (nI h) = true := ix_ok (by omega) (by decide)
  have c0 : (nI h).toNatClampNeg = h := nI_lt31 (by omega)
  refine it_wp (B := B_Way_lookAhead_1 c) (z := fun _ _ _ _ _ => none) (fun K k (s : hn) => K (nI h) (nI (H - 1)) fl (nI k) s) 64
    (fun k s => off1 53 N s ∧ ahR S H (h + 1) s ∧ ∀ j, j < k → S h j = true → s.1 53 (h * 64 + j) = nI (cR S H (H - 1 - h) j))
    (Q := fun x => ∃ N', x = some N' ∧ off1 53 N N' ∧ ahR S H h N') ?_ ?_ (n := hN) (k := 0) (s := N) (by omega) (hN_big (by omega)) ⟨off1.refl, ha, fun j hj => absurd hj (Nat.not_lt_zero j)⟩
  · rintro K s ⟨i1, i2, i3⟩
    refine ⟨s, ?_, i1, ?_⟩
    · have g : (64 : Int32) ≤ nI 64 := by decide
      simp only [B_Way_lookAhead_1, g, ↓reduceIte]
    · intro i k hi hle hk hs
      by_cases e : i = h
      · subst e; exact i3 k hk hs
      · exact i2 i k hi (by omega) hk hs
  · rintro K k s hk ⟨i1, i2, i3⟩
    right
    have g : ¬ (64 : Int32) ≤ nI k := nI_ge (b := 64) hk (by decide)
    have s52 : s.2 = N.2 := i1.2
    by_cases q : S h k = true
    · have t1 : (lg_cmp (((s.2 52 h).toUInt64 >>> ((nI k).toInt64.toUInt64 &&& Int64.toUInt64 63)).toInt64 &&& (1 : Int64)) (1 : Int64)) = 0 := (bL_t hk).mpr (by rw [s52, hst h hh k hk]; exact q)
      have e1 : (nI h * (64 : Int32)) + nI k = nI (h * 64 + k) := by rw [show (64 : Int32) = nI 64 from rfl, nI_m, nI_a]
      have x2 : hn_ix 1536 (nI (h * 64 + k)) = true := ix_ok (by omega) (by decide)
      have c2 : (nI (h * 64 + k)).toNatClampNeg = h * 64 + k := nI_lt31 (by omega)
      have fin : ∀ v : Int32, v = nI (cR S H (H - 1 - h) k) → (off1 53 N (hn_wI s 53 (h * 64 + k) v) ∧ ahR S H (h + 1) (hn_wI s 53 (h * 64 + k) v) ∧ ∀ j, j < k + 1 → S h j = true → (hn_wI s 53 (h * 64 + k) v).1 53 (h * 64 + j) = nI (cR S H (H - 1 - h) j)) := by
        intro v hv
        refine ⟨i1.trans off1.w, ?_, ?_⟩
        · intro i k' hi hle hk' hs; rw [wI_n (by omega)]; exact i2 i k' hi hle hk' hs
        · intro j hj hs
          by_cases e : j = k
          · subst e; rw [wI_s, hv]
          · rw [wI_n (by omega)]; exact i3 j (by omega) hs
      by_cases hl : h = H - 1
      · have g2 : nI (H - 1) ≤ nI h := by rw [← hl]; exact Int32.le_refl _
        refine ⟨_, fin 0 (by rw [hl, Nat.sub_self]; rfl), ?_⟩
        simp only [B_Way_lookAhead_1, B_Way_lookAhead_3, g, ↓reduceIte, x1, hg_T, c0, t1, g2, e1, x2, c2, hl_e, ← nI_succ]
      · have g2 : ¬ nI (H - 1) ≤ nI h := nI_ge (by omega) (by omega)
        have eh : nI h + (1 : Int32) = nI (h + 1) := (nI_succ h).symm
        have x3 : hn_ix 24 (nI (h + 1)) = true := ix_ok (by omega) (by decide)
        have c3 : (nI (h + 1)).toNatClampNeg = h + 1 := nI_lt31 (by omega)
        have er : H - 1 - h = (H - 1 - (h + 1)) + 1 := by omega
        have eS : H - 1 - (H - 1 - (h + 1)) = h + 1 := by omega
        by_cases qf : s.2 52 (h + 1) = fl
        · have t2 : lg_cmp (s.2 52 (h + 1)) fl = 0 := lgc.mpr qf
          have sk : S (h + 1) k = true := by
            rw [← hst (h + 1) (by omega) k hk, ← s52, qf, hF k hk]; exact hSF h k hk q
          have ov := over_ok (c := c) hk hk (show h + 1 < 24 by omega) (N := s) (i2 (h + 1) k (by omega) (by omega) hk sk)
          rw [dst_self, Nat.zero_add] at ov
          refine ⟨_, fin (nI (cR S H (H - 1 - (h + 1)) k)) ?_, ?_⟩
          · rw [er]; exact congrArg nI (cR_stay (H := H) hS (by omega) hk (by rw [eS]; exact sk)).symm
          · simp only [B_Way_lookAhead_1, B_Way_lookAhead_2, B_Way_lookAhead_3, g, ↓reduceIte, x1, hg_T, c0, t1, g2, eh, x3, c3, t2, ov, hbN_e, e1, x2, c2, hl_e, ← nI_succ]
        · have t2 : ¬ lg_cmp (s.2 52 (h + 1)) fl = 0 := fun z => qf (lgc.mp z)
          have ov : ∀ p, p < 64 → S (h + 1) p = true → F_Way_stepsOver c (nI k) (nI (h + 1)) (nI p) s = some (nI (dst k p + cR S H (H - 1 - (h + 1)) p), s) := fun p hp hs => over_ok hk hp (by omega) (i2 (h + 1) p (by omega) (by omega) hp hs)
          have bnd : ∀ p, p < 64 → S (h + 1) p = true → dst k p + cR S H (H - 1 - (h + 1)) p < BIG := by
            intro p hp _
            have a := cR_le (H := H) hS (H - 1 - (h + 1)) p hp
            have b := dst_le hk hp
            unfold BIG; omega
          have nx := next_ok (c := c) (hr := h + 1) (by omega) (S := S (h + 1)) (f := fun p => dst k p + cR S H (H - 1 - (h + 1)) p) (from' := nI k) (N := s) (fun p hp => by rw [s52]; exact hst (h + 1) (by omega) p hp) ov bnd
          have big := cR_big (H := H) hS (r := H - 1 - (h + 1)) (by omega) hk
          rw [eS] at big
          obtain ⟨y1, y2, y3, -⟩ := ag_ok big
          refine ⟨_, fin (nI (cR S H (H - 1 - h) k)) rfl, ?_⟩
          have ov2 := ov _ y1 y2
          have e5 : dst k (agF (S (h + 1)) (fun p => dst k p + cR S H (H - 1 - (h + 1)) p) 64) + cR S H (H - 1 - (h + 1)) (agF (S (h + 1)) (fun p => dst k p + cR S H (H - 1 - (h + 1)) p) 64) = cR S H (H - 1 - h) k := by
            rw [er, cR, eS]; exact y3
          rw [e5] at ov2
          simp only [B_Way_lookAhead_1, B_Way_lookAhead_2, B_Way_lookAhead_3, g, ↓reduceIte, x1, hg_T, c0, t1, g2, eh, x3, c3, t2, nx, hbN_e, ov2, e1, x2, c2, hl_e, ← nI_succ]
    · have t1 : ¬ (lg_cmp (((s.2 52 h).toUInt64 >>> ((nI k).toInt64.toUInt64 &&& Int64.toUInt64 63)).toInt64 &&& (1 : Int64)) (1 : Int64)) = 0 := fun z => q (by rw [← hst h hh k hk, ← s52]; exact (bL_t hk).mp z)
      refine ⟨s, ⟨i1, i2, ?_⟩, ?_⟩
      · intro j hj hs
        by_cases e : j = k
        · subst e; exact absurd hs q
        · exact i3 j (by omega) hs
      · simp only [B_Way_lookAhead_1, g, ↓reduceIte, x1, hg_T, c0, t1, ← nI_succ]
theorem find_ok {c : Nat} {ch : Nat → Int32} {law : Law} {N : hn} (h : RR c ch law N) {t H g : Nat} (hg : g < 6) (h1 : 1 ≤ H) (hH : H ≤ 24) (ht : t + H ≤ 1248) {pb : Int32} (hb : ∀ i, i < 32 → bt pb i = (decide (i < nP ch) && (decide (N.1 88 i = nI g) && !bt (N.1 88 12) i))) :
    ∃ N', F_Way_find c pb (nI t) (nI H) N = some N' ∧ RR c ch law N' ∧ N'.1 88 = N.1 88 ∧ N'.1 51 3 = nI (cR (fun i => stS ch law (N.1 88) (t + i) g) H (H - 1) (plR (fun i => stS ch law (N.1 88) (t + i) g) H 0)) ∧ ∀ i, i < H → N'.1 54 i = nI (plR (fun i => stS ch law (N.1 88) (t + i) g) H i) := by
  obtain ⟨-, a2, -⟩ := id h
  have hcc : c = 5 ∨ c = 20 := h.1
  obtain ⟨fl, fl1, fl2⟩ := floor_ok h
  obtain ⟨S, eS⟩ : ∃ S, S = fun i => stS ch law (N.1 88) (t + i) g := ⟨_, rfl⟩
  rw [← eS]
  have hS : ∀ i, ∃ k, k < 64 ∧ S i k = true := fun i => by rw [eS]; exact stS_some a2
  have hSF : ∀ i k, k < 64 → S i k = true → onP ch k = true := fun i k hk hs => by rw [eS] at hs; exact stS_on a2 hk hs
  have emin : hm_min (nI H) (24 : Int32) = nI H := by
    have := min_nI (a := H) (b := 24) (by omega) (by decide)
    rw [show min H 24 = H by omega] at this
    exact this
  have lead : F_Way_find c pb (nI t) (nI H) N = F_Way_find_1 c hN pb (nI t) (nI H) fl (0 : Int32) N := by
    simp only [F_Way_find, emin, hl_e, fl1, hbN_e]
  rw [lead]
  -- the row of places
  have l4 : ∀ X : hn, RR c ch law X → X.1 88 = N.1 88 → (∀ i, i < H → ∀ p, p < 64 → bL (X.2 52 i) p = S i p) → ahR S H 0 X → ∃ N', F_Way_find_4 c hN (nI H) (-1 : Int32) (0 : Int32) X = some N' ∧ RR c ch law N' ∧ N'.1 88 = N.1 88 ∧ N'.1 51 3 = nI (cR S H (H - 1) (plR S H 0)) ∧ ∀ i, i < H → N'.1 54 i = nI (plR S H i) := by
    intro X hX x88 hst ha
    have pl0 : plR S H 0 < 64 ∧ S 0 (plR S H 0) = true := by
      have big : mnF (S 0) (fun e => cR S H (H - 1) e) 64 < BIG := by
        obtain ⟨k, k1, k2⟩ := hS 0
        refine mn_lt k1 k2 ?_
        have := cR_le (H := H) hS (H - 1) k k1
        unfold BIG; omega
      obtain ⟨y1, y2, -, -⟩ := ag_ok big
      exact ⟨y1, y2⟩
    have pl64 : ∀ i, i < H → plR S H i < 64 := by
      intro i
      induction i with
      | zero => intro _; exact pl0.1
      | succ i ih =>
        intro hi
        have big := cR_big (H := H) hS (r := H - 1 - (i + 1)) (by omega) (ih (by omega))
        rw [show H - 1 - (H - 1 - (i + 1)) = i + 1 by omega] at big
        exact (ag_ok big).1
    refine it_wp (B := B_Way_find_4 c) (z := fun _ _ _ _ => none) (fun K k (s : Int32 × hn) => K (nI H) s.1 (nI k) s.2) H
      (fun k s => off1 54 X s.2 ∧ (k = 0 → s.1 = -1) ∧ (0 < k → s.1 = nI (plR S H (k - 1))) ∧ ∀ i, i < k → s.2.1 54 i = nI (plR S H i))
      (Q := fun x => ∃ N', x = some N' ∧ RR c ch law N' ∧ N'.1 88 = N.1 88 ∧ N'.1 51 3 = nI (cR S H (H - 1) (plR S H 0)) ∧ ∀ i, i < H → N'.1 54 i = nI (plR S H i)) ?_ ?_ (n := hN) (k := 0) (s := (-1, X)) (by omega) (hN_big (by omega)) ⟨off1.refl, fun _ => rfl, fun q => absurd q (by omega), fun i hi => absurd hi (Nat.not_lt_zero i)⟩
    · rintro K ⟨a, s⟩ ⟨i1, i2, i3, i4⟩
      dsimp only at i1 i2 i3 i4
      have g1 : nI H ≤ nI H := Int32.le_refl _
      have g2 : ¬ nI H ≤ 0 := nI_nle (by omega) (by omega)
      have e0 : s.1 54 0 = nI (plR S H 0) := i4 0 (by omega)
      have x1 : hn_ix 1536 (nI (plR S H 0)) = true := ix_ok (by omega) (by decide)
      have c1 : (nI (plR S H 0)).toNatClampNeg = plR S H 0 := nI_lt31 (by omega)
      have e3 : s.1 53 (plR S H 0) = nI (cR S H (H - 1) (plR S H 0)) := by
        rw [i1.1 53 (by decide)]
        have := ha 0 (plR S H 0) (by omega) (by omega) pl0.1 pl0.2
        rwa [Nat.zero_mul, Nat.zero_add, Nat.sub_zero] at this
      refine ⟨hn_wI s 51 3 (nI (cR S H (H - 1) (plR S H 0))), ?_, ((hX.scr (by decide) i1).scr (v := 51) (by decide) off1.w), ?_, wI_s, ?_⟩
      · simp only [B_Way_find_4, B_Way_find_5, g1, g2, ↓reduceIte, x_24_0, hg_T, t_0, e0, x1, c1, e3, hl_e]
      · rw [wI_o (by decide), i1.1 88 (by decide)]; exact x88
      · intro i hi; rw [wI_o (by decide)]; exact i4 i hi
    · rintro K k ⟨a, s⟩ hk ⟨i1, i2, i3, i4⟩
      dsimp only at i1 i2 i3 i4
      right
      have g1 : ¬ nI H ≤ nI k := nI_ge hk (by omega)
      have x1 : hn_ix 24 (nI k) = true := ix_ok (by omega) (by decide)
      have c1 : (nI k).toNatClampNeg = k := nI_lt31 (by omega)
      have ah : ∀ p, p < 64 → S k p = true → s.1 53 (k * 64 + p) = nI (cR S H (H - 1 - k) p) := fun p hp hs => by rw [i1.1 53 (by decide)]; exact ha k p hk (by omega) hp hs
      have hst' : ∀ p, p < 64 → bL (s.2 52 k) p = S k p := fun p hp => by rw [i1.2]; exact hst k hk p hp
      have nx : F_Way_nextFrom c a (nI k) s = some (nI (plR S H k), s) := by
        cases k with
        | zero =>
          rw [i2 rfl]
          exact next_ok (c := c) (by omega) hst' (fun p hp hs => by have := over_0 (c := c) hp (show 0 < 24 by decide) (N := s) (ah p hp hs); exact this) (fun p hp _ => by
            have := cR_le (H := H) hS (H - 1) p hp
            unfold BIG; omega)
        | succ k =>
          rw [i3 (by omega), show k + 1 - 1 = k by omega]
          have pk := pl64 k (by omega)
          exact next_ok (c := c) (by omega) hst' (fun p hp hs => over_ok pk hp (by omega) (ah p hp hs)) (fun p hp _ => by
            have a := cR_le (H := H) hS (H - 1 - (k + 1)) p hp
            have b := dst_le pk hp
            unfold BIG; omega)
      refine ⟨(nI (plR S H k), hn_wI s 54 k (nI (plR S H k))), ⟨i1.trans off1.w, fun q => absurd q (by omega), fun _ => by rw [show k + 1 - 1 = k by omega], ?_⟩, ?_⟩
      · intro i hi
        show (hn_wI s 54 k (nI (plR S H k))).1 54 i = _
        by_cases e : i = k
        · subst e; rw [wI_s]
        · rw [wI_n e]; exact i4 i (by omega)
      · simp only [B_Way_find_4, g1, ↓reduceIte, nx, hbN_e, x1, hg_T, c1, hl_e, ← nI_succ]
  -- backwards
  have l3 : ∀ X : hn, RR c ch law X → X.1 88 = N.1 88 → (∀ i, i < H → ∀ p, p < 64 → bL (X.2 52 i) p = S i p) → ∃ N', F_Way_find_3 c hN (nI H) fl (nI H - (1 : Int32)) X = some N' ∧ RR c ch law N' ∧ N'.1 88 = N.1 88 ∧ N'.1 51 3 = nI (cR S H (H - 1) (plR S H 0)) ∧ ∀ i, i < H → N'.1 54 i = nI (plR S H i) := by
    intro X hX x88 hst
    have eH : nI H - (1 : Int32) = nI (H - 1) := nI_s (b := 1) h1
    refine it_wp (B := B_Way_find_3 c) (z := fun _ _ _ _ => none) (fun K j (s : hn) => K (nI H) fl (nI (H - j) - (1 : Int32)) s) H
      (fun j s => off1 53 X s ∧ ahR S H (H - j) s)
      (Q := fun x => ∃ N', x = some N' ∧ RR c ch law N' ∧ N'.1 88 = N.1 88 ∧ N'.1 51 3 = nI (cR S H (H - 1) (plR S H 0)) ∧ ∀ i, i < H → N'.1 54 i = nI (plR S H i)) ?_ ?_ (n := hN) (k := 0) (s := X) (by omega) (hN_big (by omega)) ⟨off1.refl, fun i k hi hle => absurd hle (by omega)⟩
    · rintro K s ⟨i1, i2⟩
      rw [Nat.sub_self] at i2
      obtain ⟨N', w1, w2⟩ := l4 s (hX.scr (by decide) i1) (by rw [i1.1 88 (by decide)]; exact x88) (by rw [i1.2]; exact hst) i2
      refine ⟨N', ?_, w2⟩
      have g : nI (H - H) - (1 : Int32) < 0 := by rw [Nat.sub_self]; decide
      simp only [B_Way_find_3, g, ↓reduceIte]
      exact w1
    · rintro K j s hj ⟨i1, i2⟩
      right
      obtain ⟨m, hm⟩ : ∃ m, H - j = m + 1 := ⟨H - j - 1, by omega⟩
      have e0 : nI (H - j) - (1 : Int32) = nI m := by rw [hm]; exact nI_pred m
      have g0 : ¬ nI m < 0 := nI_nn (by omega)
      rw [hm] at i2
      obtain ⟨N', w1, w2, w3⟩ := ahead_ok (c := c) (h := m) hH (by omega) hS (fl := fl) (N := s) fl2 hSF (by rw [i1.2]; exact hst) i2
      refine ⟨N', ⟨i1.trans w2, by rw [show H - (j + 1) = m by omega]; exact w3⟩, ?_⟩
      show B_Way_find_3 c K (nI H) fl (nI (H - j) - (1 : Int32)) s = K (nI H) fl (nI (H - (j + 1)) - (1 : Int32)) N'
      rw [e0, show H - (j + 1) = m by omega]
      simp only [B_Way_find_3, g0, ↓reduceIte, eH, w1, hvN_e]
      rw [Int32.sub_eq_add_neg]
  -- where one may stand
  refine it_wp (B := B_Way_find_1 c) (z := fun _ _ _ _ _ _ => none) (fun K k (s : hn) => K pb (nI t) (nI H) fl (nI k) s) H
    (fun k s => RR c ch law s ∧ s.1 88 = N.1 88 ∧ ∀ i, i < k → ∀ p, p < 64 → bL (s.2 52 i) p = S i p)
    (Q := fun x => ∃ N', x = some N' ∧ RR c ch law N' ∧ N'.1 88 = N.1 88 ∧ N'.1 51 3 = nI (cR S H (H - 1) (plR S H 0)) ∧ ∀ i, i < H → N'.1 54 i = nI (plR S H i)) ?_ ?_ (n := hN) (k := 0) (s := N) (by omega) (hN_big (by omega)) ⟨h, rfl, fun i hi => absurd hi (Nat.not_lt_zero i)⟩
  · rintro K s ⟨i1, i2, i3⟩
    obtain ⟨N', w1, w2⟩ := l3 s i1 i2 i3
    refine ⟨N', ?_, w2⟩
    have g1 : nI H ≤ nI H := Int32.le_refl _
    simp only [B_Way_find_1, g1, ↓reduceIte, hl_e]
    exact w1
  · rintro K k s hk ⟨i1, i2, i3⟩
    right
    have g1 : ¬ nI H ≤ nI k := nI_ge hk (by omega)
    have e1 : nI t + nI k = nI (t + k) := nI_a t k
    obtain ⟨N1, t1, t2, t3, t4⟩ := i1.turn (t := t + k) (by omega)
    have o88 : N1.1 88 = N.1 88 := by rw [t4.1 88 (by decide) (by decide) (by omega) (by omega)]; exact i2
    obtain ⟨x, x1, x2⟩ := places_ok t3 hg t2 (pb := pb) (by rw [o88]; exact hb)
    rw [o88] at x2
    have y1 : hn_ix 24 (nI k) = true := ix_ok (by omega) (by decide)
    have c1 : (nI k).toNatClampNeg = k := nI_lt31 (by omega)
    have oz : x = 0 ↔ ¬ anyF (owS ch law (N.1 88) (t + k) g) 64 = true := by
      rw [bL_z]
      constructor
      · intro z q
        obtain ⟨i, j1, j2⟩ := anyF_iff.mp q
        rw [← x2 i j1, z i j1] at j2; exact absurd j2 (by decide)
      · intro z i hi
        rw [x2 i hi]
        by_cases q : owS ch law (N.1 88) (t + k) g i = true
        · exact absurd (anyF_iff.mpr ⟨i, hi, q⟩) z
        · simpa using q
    have fin : ∀ v : Int64, (∀ p, p < 64 → bL v p = S k p) → (RR c ch law (hn_wL N1 52 k v) ∧ (hn_wL N1 52 k v).1 88 = N.1 88 ∧ ∀ i, i < k + 1 → ∀ p, p < 64 → bL ((hn_wL N1 52 k v).2 52 i) p = S i p) := by
      intro v hv
      obtain ⟨-, -, -, ⟨-, l5, l6⟩, -⟩ := id t3
      refine ⟨t3.qP ⟨fun b _ => rfl, fun b _ b2 => wL_o b2⟩ ⟨by unfold yrP; rw [wL_o (by decide)]; exact l5.1, l5.2⟩ l6, o88, ?_⟩
      intro i hi p hp
      by_cases e : i = k
      · subst e; rw [wL_s]; exact hv p hp
      · rw [wL_n e, t4.2 52 (by decide)]; exact i3 i (by omega) p hp
    by_cases q : anyF (owS ch law (N.1 88) (t + k) g) 64 = true
    · have nz : ¬ lg_cmp x 0 = 0 := fun z => (oz.mp (lgc.mp z)) q
      refine ⟨_, fin x (fun p hp => by rw [x2 p hp, eS]; show _ = stS ch law (N.1 88) (t + k) g p; unfold stS; rw [if_pos q]), ?_⟩
      simp only [B_Way_find_1, B_Way_find_2, g1, ↓reduceIte, e1, t1, hvN_e, x1, hbN_e, nz, y1, hg_T, c1, hl_e, ← nI_succ]
    · have nz : lg_cmp x 0 = 0 := lgc.mpr (oz.mpr q)
      refine ⟨_, fin fl (fun p hp => by rw [fl2 p hp, eS]; show _ = stS ch law (N.1 88) (t + k) g p; unfold stS; rw [if_neg q]), ?_⟩
      simp only [B_Way_find_1, B_Way_find_2, g1, ↓reduceIte, e1, t1, hvN_e, x1, hbN_e, nz, y1, hg_T, c1, hl_e, ← nI_succ]
