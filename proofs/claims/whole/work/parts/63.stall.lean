/-! the way of a stall: the reference's side -/
def FARM : Nat := 100000000
theorem own_bit {c : Nat} {ch : Nat → Int32} {law : Law} {N : hn} (h : RR c ch law N) {t k g : Nat} (hg : g < 6) : bt (ownS ch law (N.1 88) t (nI k)) g = owS ch law (N.1 88) t g k := by
  obtain ⟨hP, hG, -⟩ := h.P
  have iff : bt (ownS ch law (N.1 88) t (nI k)) g = true ↔ owS ch law (N.1 88) t g k = true := by
    unfold ownS owS
    rw [bt_orF, anyF_iff]
    constructor
    · rintro ⟨p, p1, p2, p3⟩
      obtain ⟨o, o1, o2⟩ := h.own p p1
      rw [o2, bt_1sh (by omega) (by omega)] at p3
      have : g = o := by simpa using p3
      subst this
      exact ⟨p, p1, by simp [o2, p2]⟩
    · rintro ⟨p, p1, p2⟩
      simp only [Bool.and_eq_true, decide_eq_true_eq] at p2
      refine ⟨p, p1, p2.2, ?_⟩
      rw [p2.1, bt_1sh (by omega) (by omega)]; simp
  cases e1 : bt (ownS ch law (N.1 88) t (nI k)) g
  · cases e2 : owS ch law (N.1 88) t g k
    · rfl
    · rw [iff.mpr e2] at e1; exact absurd e1 (by decide)
  · exact (iff.mp e1).symm
/-- what stands in rest of an hour -/
def rsV (b : Bool) (v : Nat) : Int32 := if b then nI v else nI FARM
theorem may_ok {c : Nat} {ch : Nat → Int32} {law : Law} {N : hn} (h : RR c ch law N) {w d i g : Nat} (hw : w < 52) (hd : d + i < 24) (hg : g < 6) :
    ∃ N', F_Md_findMay c (nI g) (nI w) (nI (d + i)) (nI i) N = some N' ∧ RR c ch law N' ∧ N'.1 88 = N.1 88 ∧ (∀ k, k < 64 → N'.1 95 (64 * i + k) = rsV (stS ch law (N.1 88) (w * 24 + d + i) g k) 0) ∧ ∀ j, (j < 64 * i ∨ 64 * i + 64 ≤ j) → N'.1 95 j = N.1 95 j := by
  obtain ⟨hP, hG, -⟩ := h.P
  obtain ⟨-, a2, -⟩ := id h
  obtain ⟨N1, f1, f2, f3, f4⟩ := h.find hw hd
  rw [show w * 24 + (d + i) = w * 24 + d + i by omega] at f4
  have n88 : N1.1 88 = N.1 88 := f3.1 88 (by decide) (by decide) (by decide)
  have n95 : N1.1 95 = N.1 95 := f3.1 95 (by decide) (by decide) (by decide)
  obtain ⟨T, eT⟩ : ∃ T, T = w * 24 + d + i := ⟨_, rfl⟩
  rw [← eT] at f4 ⊢
  have sc : ∀ s : hn, off1 95 N1 s → RR c ch law s := fun s ho => f2.qM ⟨fun b _ _ _ q => ho.1 b (by omega), fun k _ _ => by rw [ho.1 76 (by decide)], fun b _ => by rw [ho.2]⟩
  -- the second loop, if nothing is owned
  have l6 : ∀ s : hn, off1 95 N1 s → (∀ j, (j < 64 * i ∨ 64 * i + 64 ≤ j) → s.1 95 j = N1.1 95 j) → ∃ N', F_Md_findMay_6 c hN (nI i) (0 : Int32) (0 : Int32) s = some N' ∧ off1 95 N1 N' ∧ (∀ k, k < 64 → N'.1 95 (64 * i + k) = rsV (onP ch k) 0) ∧ ∀ j, (j < 64 * i ∨ 64 * i + 64 ≤ j) → N'.1 95 j = N1.1 95 j := by
    intro s hs1 hs2
    refine it_wp (B := B_Md_findMay_6 c) (z := fun _ _ _ _ => none) (fun K k (s' : hn) => K (nI i) (0 : Int32) (nI k) s') 64
      (fun k s' => off1 95 N1 s' ∧ (∀ j, j < k → s'.1 95 (64 * i + j) = rsV (onP ch j) 0) ∧ ∀ j, (j < 64 * i ∨ 64 * i + 64 ≤ j) → s'.1 95 j = N1.1 95 j)
      (Q := fun x => ∃ N', x = some N' ∧ off1 95 N1 N' ∧ (∀ k, k < 64 → N'.1 95 (64 * i + k) = rsV (onP ch k) 0) ∧ ∀ j, (j < 64 * i ∨ 64 * i + 64 ≤ j) → N'.1 95 j = N1.1 95 j) ?_ ?_ (n := hN) (k := 0) (s := s) (by omega) (hN_big (by omega)) ⟨hs1, fun j hj => absurd hj (Nat.not_lt_zero j), hs2⟩
    · rintro K s' ⟨i1, i2, i3⟩
      refine ⟨s', ?_, i1, i2, i3⟩
      have g1 : (64 : Int32) ≤ nI 64 := by decide
      simp only [B_Md_findMay_6, g1, ↓reduceIte]
    · rintro K k s' hk ⟨i1, i2, i3⟩
      right
      have g1 : ¬ (64 : Int32) ≤ nI k := nI_ge (b := 64) hk (by decide)
      have e1 : ((64 : Int32) * nI i) + nI k = nI (64 * i + k) := by rw [show (64 : Int32) = nI 64 from rfl, nI_m, nI_a]
      have x1 : hn_ix 1536 (nI (64 * i + k)) = true := ix_ok (by omega) (by decide)
      have c1 : (nI (64 * i + k)).toNatClampNeg = 64 * i + k := nI_lt31 (by omega)
      have z : ¬ (1 : Int32) = 0 := by decide
      have fin : (off1 95 N1 (hn_wI s' 95 (64 * i + k) (rsV (onP ch k) 0)) ∧ (∀ j, j < k + 1 → (hn_wI s' 95 (64 * i + k) (rsV (onP ch k) 0)).1 95 (64 * i + j) = rsV (onP ch j) 0) ∧ ∀ j, (j < 64 * i ∨ 64 * i + 64 ≤ j) → (hn_wI s' 95 (64 * i + k) (rsV (onP ch k) 0)).1 95 j = N1.1 95 j) := by
        refine ⟨i1.trans off1.w, ?_, ?_⟩
        · intro j hj
          by_cases e : j = k
          · subst e; rw [wI_s]
          · rw [wI_n (by omega)]; exact i2 j (by omega)
        · intro j hj; rw [wI_n (by omega)]; exact i3 j hj
      refine ⟨_, fin, ?_⟩
      by_cases q : onP ch k = true
      · simp only [B_Md_findMay_6, B_Md_findMay_7, g1, ↓reduceIte, md_onP (sc s' i1) hk, q, hbN_e, z, e1, x1, hg_T, c1, hl_e, rsV, ← nI_succ]; rfl
      · have q' : onP ch k = false := by simpa using q
        simp only [B_Md_findMay_6, B_Md_findMay_7, g1, ↓reduceIte, md_onP (sc s' i1) hk, q', Bool.false_eq_true, hbN_e, e1, x1, hg_T, c1, hl_e, rsV, ← nI_succ]; rfl
  have lead : F_Md_findMay c (nI g) (nI w) (nI (d + i)) (nI i) N = F_Md_findMay_1 c hN (nI g) (nI i) (0 : Int32) (0 : Int32) N1 := by
    simp only [F_Md_findMay, f1, hvN_e]
  rw [lead]
  refine it_wp (B := B_Md_findMay_1 c) (z := fun _ _ _ _ _ => none) (fun K k (s : Int32 × hn) => K (nI g) (nI i) s.1 (nI k) s.2) 64
    (fun k s => (s.1 = if anyF (owS ch law (N.1 88) T g) k then 1 else 0) ∧ off1 95 N1 s.2 ∧ (∀ j, j < k → s.2.1 95 (64 * i + j) = rsV (owS ch law (N.1 88) T g j) 0) ∧ ∀ j, (j < 64 * i ∨ 64 * i + 64 ≤ j) → s.2.1 95 j = N1.1 95 j)
    (Q := fun x => ∃ N', x = some N' ∧ RR c ch law N' ∧ N'.1 88 = N.1 88 ∧ (∀ k, k < 64 → N'.1 95 (64 * i + k) = rsV (stS ch law (N.1 88) T g k) 0) ∧ ∀ j, (j < 64 * i ∨ 64 * i + 64 ≤ j) → N'.1 95 j = N.1 95 j) ?_ ?_ (n := hN) (k := 0) (s := (0, N1)) (by omega) (hN_big (by omega)) ⟨rfl, off1.refl, fun j hj => absurd hj (Nat.not_lt_zero j), fun _ _ => rfl⟩
  · rintro K ⟨fl, s⟩ ⟨i1, i2, i3, i4⟩
    dsimp only at i1 i2 i3 i4
    have g1 : (64 : Int32) ≤ nI 64 := by decide
    have z : ¬ (1 : Int32) = 0 := by decide
    by_cases q : anyF (owS ch law (N.1 88) T g) 64 = true
    · rw [q, if_pos rfl] at i1
      refine ⟨s, ?_, sc s i2, by rw [i2.1 88 (by decide)]; exact n88, ?_, fun j hj => by rw [i4 j hj, n95]⟩
      · subst i1
        have g0 : ¬ (64 : Int32) ≤ 0 := by decide
        show B_Md_findMay_1 c K (nI g) (nI i) 1 (nI 64) s = some s
        simp only [B_Md_findMay_1, g1, ↓reduceIte]
        refine it_wp (B := B_Md_findMay_6 c) (z := fun _ _ _ _ => none) (fun K k (_ : Unit) => K (nI i) (1 : Int32) (nI k) s) 0 (fun _ _ => True) (Q := fun x => x = some s) ?_ (fun _ k _ hk _ => absurd hk (Nat.not_lt_zero k)) (n := hN) (k := 0) (s := ()) (by omega) (hN_big (by omega)) trivial
        intro K' _ _
        have g0' : ¬ (64 : Int32) ≤ nI 0 := by decide
        simp only [B_Md_findMay_6, g0', z, ↓reduceIte]
      · intro k hk; rw [i3 k hk]; unfold stS; rw [if_pos q]
    · have q' : anyF (owS ch law (N.1 88) T g) 64 = false := by simpa using q
      rw [q'] at i1
      simp only [Bool.false_eq_true, ↓reduceIte] at i1
      obtain ⟨N', w1, w2, w3, w4⟩ := l6 s i2 i4
      refine ⟨N', ?_, sc N' w2, by rw [w2.1 88 (by decide)]; exact n88, ?_, fun j hj => by rw [w4 j hj, n95]⟩
      · show B_Md_findMay_1 c K (nI g) (nI i) fl (nI 64) s = some N'
        simp only [B_Md_findMay_1, g1, ↓reduceIte, i1]
        exact w1
      · intro k hk; rw [w3 k hk]; unfold stS; rw [if_neg q]
  · rintro K k ⟨fl, s⟩ hk ⟨i1, i2, i3, i4⟩
    dsimp only at i1 i2 i3 i4
    right
    have g1 : ¬ (64 : Int32) ≤ nI k := nI_ge (b := 64) hk (by decide)
    have e1 : ((64 : Int32) * nI i) + nI k = nI (64 * i + k) := by rw [show (64 : Int32) = nI 64 from rfl, nI_m, nI_a]
    have x1 : hn_ix 1536 (nI (64 * i + k)) = true := ix_ok (by omega) (by decide)
    have c1 : (nI (64 * i + k)).toNatClampNeg = 64 * i + k := nI_lt31 (by omega)
    have z : ¬ (1 : Int32) = 0 := by decide
    have hs := sc s i2
    have s88 : s.1 88 = N.1 88 := by rw [i2.1 88 (by decide)]; exact n88
    have la : F_Md_lightAt c (nI k) (0 : Int32) s = some (ownS ch law (N.1 88) T (nI k), s) := by
      obtain ⟨hP', -, -, -, m4, -⟩ := hs.P
      have on := on_md h (N' := s) hk (t := T) (by rw [i2.1 90 (by decide)]; exact f4)
      rw [lightAt_ok hP' m4]
      simp only [↓reduceIte, s88]
      congr 2
      exact orF_cong on (fun _ _ _ => rfl)
    have fin : ((if anyF (owS ch law (N.1 88) T g) (k + 1) then (1 : Int32) else 0) = if anyF (owS ch law (N.1 88) T g) (k + 1) then 1 else 0) ∧ off1 95 N1 (hn_wI s 95 (64 * i + k) (rsV (owS ch law (N.1 88) T g k) 0)) ∧ (∀ j, j < k + 1 → (hn_wI s 95 (64 * i + k) (rsV (owS ch law (N.1 88) T g k) 0)).1 95 (64 * i + j) = rsV (owS ch law (N.1 88) T g j) 0) ∧ ∀ j, (j < 64 * i ∨ 64 * i + 64 ≤ j) → (hn_wI s 95 (64 * i + k) (rsV (owS ch law (N.1 88) T g k) 0)).1 95 j = N1.1 95 j := by
      refine ⟨rfl, i2.trans off1.w, ?_, ?_⟩
      · intro j hj
        by_cases e : j = k
        · subst e; rw [wI_s]
        · rw [wI_n (by omega)]; exact i3 j (by omega)
      · intro j hj; rw [wI_n (by omega)]; exact i4 j hj
    refine ⟨((if anyF (owS ch law (N.1 88) T g) (k + 1) then (1 : Int32) else 0), _), fin, ?_⟩
    show B_Md_findMay_1 c K (nI g) (nI i) fl (nI k) s = K (nI g) (nI i) (if anyF (owS ch law (N.1 88) T g) (k + 1) then (1 : Int32) else 0) (nI (k + 1)) (hn_wI s 95 (64 * i + k) (rsV (owS ch law (N.1 88) T g k) 0))
    rw [anyF]
    by_cases q : owS ch law (N.1 88) T g k = true
    · have onp : onP ch k = true := by
        obtain ⟨p, p1, p2⟩ := anyF_iff.mp q
        unfold onS at p2
        simp only [Bool.and_eq_true, decide_eq_true_eq] at p2
        exact spF_onP a2 hk p2.2.1
      have bg : bt (ownS ch law (N.1 88) T (nI k)) g = true := by rw [own_bit h hg]; exact q
      rw [q]
      by_cases qa : anyF (owS ch law (N.1 88) T g) k = true
      · rw [qa, if_pos rfl] at i1
        simp only [B_Md_findMay_1, B_Md_findMay_3, B_Md_findMay_4, B_Md_findMay_5, g1, ↓reduceIte, md_onP hs hk, onp, hbN_e, z, la, bt_sh (show g < 32 by omega), bg, i1, e1, x1, hg_T, c1, hl_e, rsV, Bool.or_true, ← nI_succ]; rfl
      · have qa' : anyF (owS ch law (N.1 88) T g) k = false := by simpa using qa
        rw [qa'] at i1
        simp only [Bool.false_eq_true, ↓reduceIte] at i1
        simp only [B_Md_findMay_1, B_Md_findMay_3, B_Md_findMay_4, B_Md_findMay_5, g1, ↓reduceIte, md_onP hs hk, onp, hbN_e, z, la, bt_sh (show g < 32 by omega), bg, i1, e1, x1, hg_T, c1, hl_e, rsV, Bool.or_true, ← nI_succ]; rfl
    · have q' : owS ch law (N.1 88) T g k = false := by simpa using q
      have bg : bt (ownS ch law (N.1 88) T (nI k)) g = false := by rw [own_bit h hg]; exact q'
      rw [q', Bool.or_false]
      have h2 : B_Md_findMay_1 c K (nI g) (nI i) fl (nI k) s = B_Md_findMay_2 c K (nI g) (nI i) fl (nI k) s := by
        by_cases onp : onP ch k = true
        · simp only [B_Md_findMay_1, g1, ↓reduceIte, md_onP hs hk, onp, hbN_e, z, la, bt_sh (show g < 32 by omega), bg, Bool.false_eq_true]
        · have onp' : onP ch k = false := by simpa using onp
          simp only [B_Md_findMay_1, g1, ↓reduceIte, md_onP hs hk, onp', hbN_e, Bool.false_eq_true]
      rw [h2]
      by_cases qa : anyF (owS ch law (N.1 88) T g) k = true
      · rw [qa, if_pos rfl] at i1
        simp only [B_Md_findMay_2, B_Md_findMay_3, B_Md_findMay_4, B_Md_findMay_5, qa, ↓reduceIte, z, i1, e1, x1, hg_T, c1, hl_e, rsV, Bool.false_eq_true, ← nI_succ]; rfl
      · have qa' : anyF (owS ch law (N.1 88) T g) k = false := by simpa using qa
        rw [qa'] at i1
        simp only [Bool.false_eq_true, ↓reduceIte] at i1
        simp only [B_Md_findMay_2, B_Md_findMay_3, B_Md_findMay_4, B_Md_findMay_5, qa', ↓reduceIte, i1, e1, x1, hg_T, c1, hl_e, rsV, Bool.false_eq_true, ← nI_succ]; rfl
theorem far_le {v : Nat} (h : v < BIG) : nI v < (100000000 : Int32) ∧ ¬ (100000000 : Int32) ≤ nI v := by
  unfold BIG at h
  exact ⟨nI_lt (b := 100000000) (by omega) (by decide), nI_ge (b := 100000000) (by omega) (by decide)⟩
theorem least_ok {c i k : Nat} (hi : i + 1 < 24) (hk : k < 64) {S : Nat → Bool} {f : Nat → Nat} {N : hn} (hr : ∀ e, e < 64 → N.1 95 (64 * (i + 1) + e) = rsV (S e) (f e)) (hf : ∀ e, e < 64 → dst k e + f e < BIG) (hs : ∃ e, e < 64 ∧ S e = true) :
    F_Md_leastFrom c (nI i) (nI k) N = some (nI (mnF S (fun e => dst k e + f e) 64), N) := by
  have bg : BIG = 1000000 := rfl
  have em : nI i + (1 : Int32) = nI (i + 1) := (nI_succ i).symm
  refine it_wp (B := B_Md_leastFrom_1 c) (z := fun _ _ _ _ _ => none) (fun K e (s : Int32) => K (nI i) (nI k) s (nI e) N) 64 (fun e s => (anyF S e = false → s = nI FARM ∧ mnF S (fun e => dst k e + f e) e = BIG) ∧ (anyF S e = true → s = nI (mnF S (fun e => dst k e + f e) e) ∧ mnF S (fun e => dst k e + f e) e < BIG))
    (Q := fun x => x = some (nI (mnF S (fun e => dst k e + f e) 64), N)) ?_ ?_ (n := hN) (k := 0) (s := 100000000) (by omega) (hN_big (by omega)) ⟨fun _ => ⟨rfl, rfl⟩, fun q => absurd (show false = true from q) (by decide)⟩
  · intro K s hh
    have g : (64 : Int32) ≤ nI 64 := by decide
    have : anyF S 64 = true := anyF_iff.mpr hs
    simp only [B_Md_leastFrom_1, g, ↓reduceIte, (hh.2 this).1]
  · intro K e s he hh
    right
    have g : ¬ (64 : Int32) ≤ nI e := nI_ge (b := 64) he (by decide)
    have e1 : ((64 : Int32) * nI (i + 1)) + nI e = nI (64 * (i + 1) + e) := by rw [show (64 : Int32) = nI 64 from rfl, nI_m, nI_a]
    have x1 : hn_ix 1536 (nI (64 * (i + 1) + e)) = true := ix_ok (by omega) (by decide)
    have c1 : (nI (64 * (i + 1) + e)).toNatClampNeg = 64 * (i + 1) + e := nI_lt31 (by omega)
    have fe := hf e he
    by_cases q : S e = true
    · have ve : N.1 95 (64 * (i + 1) + e) = nI (f e) := by rw [hr e he, q]; rfl
      obtain ⟨g2, -⟩ := far_le (v := f e) (by omega)
      have an : anyF S (e + 1) = true := by rw [anyF, q, Bool.or_true]
      by_cases qa : anyF S e = true
      · obtain ⟨h1, h2⟩ := hh.2 qa
        by_cases q2 : dst k e + f e < mnF S (fun e => dst k e + f e) e
        · have g3 : ¬ nI (mnF S (fun e => dst k e + f e) e) ≤ nI (f e + dst k e) := nI_ge (by omega) (by omega)
          refine ⟨nI (dst k e + f e), ⟨fun z => by rw [an] at z; exact absurd z (by decide), fun _ => ?_⟩, ?_⟩
          · rw [mnF, if_pos ⟨q, q2⟩]; exact ⟨rfl, fe⟩
          · simp only [B_Md_leastFrom_1, B_Md_leastFrom_2, B_Md_leastFrom_3, g, ↓reduceIte, em, e1, x1, hg_T, c1, ve, g2, md_steps hk he, hbN_e, nI_a, h1, g3, ← nI_succ]
            rw [Nat.add_comm]
        · have g3 : nI (mnF S (fun e => dst k e + f e) e) ≤ nI (f e + dst k e) := nI_le (by omega) (by omega)
          refine ⟨s, ⟨fun z => by rw [an] at z; exact absurd z (by decide), fun _ => ?_⟩, ?_⟩
          · rw [mnF, if_neg (fun z => q2 z.2)]; exact ⟨h1, h2⟩
          · simp only [B_Md_leastFrom_1, B_Md_leastFrom_2, B_Md_leastFrom_3, g, ↓reduceIte, em, e1, x1, hg_T, c1, ve, g2, md_steps hk he, hbN_e, nI_a, h1, g3, ← nI_succ]
      · have qa' : anyF S e = false := by simpa using qa
        obtain ⟨h1, h2⟩ := hh.1 qa'
        have g3 : ¬ nI FARM ≤ nI (f e + dst k e) := nI_ge (by unfold FARM; omega) (by unfold FARM; omega)
        refine ⟨nI (dst k e + f e), ⟨fun z => by rw [an] at z; exact absurd z (by decide), fun _ => ?_⟩, ?_⟩
        · rw [mnF, if_pos ⟨q, by rw [h2]; exact fe⟩]; exact ⟨rfl, fe⟩
        · simp only [B_Md_leastFrom_1, B_Md_leastFrom_2, B_Md_leastFrom_3, g, ↓reduceIte, em, e1, x1, hg_T, c1, ve, g2, md_steps hk he, hbN_e, nI_a, h1, g3, ← nI_succ]
          rw [Nat.add_comm]
    · have q' : S e = false := by simpa using q
      have ve : N.1 95 (64 * (i + 1) + e) = (100000000 : Int32) := by rw [hr e he, q']; rfl
      have g2 : ¬ (100000000 : Int32) < (100000000 : Int32) := by decide
      refine ⟨s, ?_, ?_⟩
      · rw [anyF, q', Bool.or_false, mnF, if_neg (fun z => q z.1)]; exact hh
      · have g3 : s ≤ (100000000 : Int32) := by
          by_cases qa : anyF S e = true
          · obtain ⟨h1, h2⟩ := hh.2 qa
            rw [h1]; exact nI_le (b := 100000000) (by omega) (by decide)
          · have qa' : anyF S e = false := by simpa using qa
            rw [(hh.1 qa').1]; exact Int32.le_refl _
        simp only [B_Md_leastFrom_1, B_Md_leastFrom_2, B_Md_leastFrom_3, g, ↓reduceIte, em, e1, x1, hg_T, c1, ve, g2, g3, ← nI_succ]
/-- rest of all hours from h on is worked out -/
def rsR (S : Nat → Nat → Bool) (H h : Nat) (N : hn) : Prop := ∀ i k, i < H → k < 64 → N.1 95 (64 * i + k) = rsV (S i k) (if h ≤ i then cR S H (H - 1 - i) k else 0)
/-- the answer out of a whole rest -/
theorem walk_md {c H : Nat} (h1 : 1 ≤ H) (hH : H ≤ 24) {S : Nat → Nat → Bool} (hS : ∀ h, ∃ k, k < 64 ∧ S h k = true) {N : hn} (hr : rsR S H 0 N) {v : Int32} (hv : v = -1 ∨ inR H v) :
    F_Md_stall_6 c hN v (100000000 : Int32) (-1 : Int32) (0 : Int32) N = some ((if v = -1 then nI (cR S H (H - 1) (plR S H 0)) else nI (plR S H v.toNatClampNeg)), N) := by
  have bg : BIG = 1000000 := rfl
  have r0 : ∀ i k, i < H → k < 64 → N.1 95 (64 * i + k) = rsV (S i k) (cR S H (H - 1 - i) k) := fun i k hi hk => by have := hr i k hi hk; rwa [if_pos (Nat.zero_le i)] at this
  have cb : ∀ r k, r < 24 → k < 64 → cR S H r k < BIG := fun r k hr' hk => by have := cR_le (H := H) hS r k hk; omega
  have big0 : mnF (S 0) (fun e => cR S H (H - 1) e) 64 < BIG := by
    obtain ⟨k, k1, k2⟩ := hS 0
    exact mn_lt k1 k2 (cb _ _ (by omega) k1)
  have big : ∀ i a, i + 1 < H → a < 64 → mnF (S (i + 1)) (fun e => dst a e + cR S H (H - 1 - (i + 1)) e) 64 < BIG := by
    intro i a hi ha
    have := cR_big (H := H) hS (r := H - 1 - (i + 1)) (by omega) ha
    rwa [show H - 1 - (H - 1 - (i + 1)) = i + 1 by omega] at this
  have pl64 : ∀ i, i < H → plR S H i < 64 ∧ S i (plR S H i) = true := by
    intro i
    induction i with
    | zero => intro _; obtain ⟨y1, y2, -, -⟩ := ag_ok big0; exact ⟨y1, y2⟩
    | succ i ih => intro hi; obtain ⟨y1, y2, -, -⟩ := ag_ok (big i _ hi (ih (by omega)).1); exact ⟨y1, y2⟩
  -- hour by hour
  have l9 : ∀ wh, wh < H → F_Md_stall_9 c hN (nI wh) (nI (plR S H 0)) (1 : Int32) N = some (nI (plR S H wh), N) := by
    intro wh hwh
    refine it_wp (B := B_Md_stall_9 c) (z := fun _ _ _ _ => none) (fun K k (s : Int32) => K (nI wh) s (nI (k + 1)) N) wh (fun k s => s = nI (plR S H k))
      (Q := fun x => x = some (nI (plR S H wh), N)) ?_ ?_ (n := hN) (k := 0) (s := nI (plR S H 0)) (by omega) (hN_big (by omega)) rfl
    · intro K s hs
      have g : nI wh < nI (wh + 1) := nI_lt (by omega) (by omega)
      simp only [B_Md_stall_9, g, ↓reduceIte, hs]
    · intro K i s hi hs
      right
      subst hs
      refine ⟨_, rfl, ?_⟩
      obtain ⟨a64, aS⟩ := pl64 i (by omega)
      have g : ¬ nI wh < nI (i + 1) := nI_nlt (by omega) (by omega)
      have em : nI (i + 1) - (1 : Int32) = nI i := nI_pred i
      have e1 : ((64 : Int32) * nI i) + nI (plR S H i) = nI (64 * i + plR S H i) := by rw [show (64 : Int32) = nI 64 from rfl, nI_m, nI_a]
      have x1 : hn_ix 1536 (nI (64 * i + plR S H i)) = true := ix_ok (by omega) (by decide)
      have c1 : (nI (64 * i + plR S H i)).toNatClampNeg = 64 * i + plR S H i := nI_lt31 (by omega)
      have ve : N.1 95 (64 * i + plR S H i) = nI (cR S H (H - 1 - i) (plR S H i)) := by rw [r0 i _ (by omega) a64, aS]; rfl
      have lead : B_Md_stall_9 c K (nI wh) (nI (plR S H i)) (nI (i + 1)) N = F_Md_stall_10 c K hN (nI wh) (nI (plR S H i)) (nI (i + 1)) (0 : Int32) (nI (cR S H (H - 1 - i) (plR S H i))) N := by
        simp only [B_Md_stall_9, g, ↓reduceIte, em, e1, x1, hg_T, c1, ve, hl_e]
      show B_Md_stall_9 c K (nI wh) (nI (plR S H i)) (nI (i + 1)) N = K (nI wh) (nI (plR S H (i + 1))) (nI (i + 1 + 1)) N
      rw [lead]
      obtain ⟨y1, y2, y3, y4⟩ := ag_ok (big i _ (by omega) a64)
      have er : H - 1 - i = (H - 1 - (i + 1)) + 1 := by omega
      have eS : H - 1 - (H - 1 - (i + 1)) = i + 1 := by omega
      have cm : cR S H (H - 1 - i) (plR S H i) = mnF (S (i + 1)) (fun e => dst (plR S H i) e + cR S H (H - 1 - (i + 1)) e) 64 := by rw [er, cR, eS]
      have pe : plR S H (i + 1) = agF (S (i + 1)) (fun e => dst (plR S H i) e + cR S H (H - 1 - (i + 1)) e) 64 := rfl
      rw [← pe] at y1 y2 y3 y4
      have body : ∀ (K' : Int32 → Int32 → Int32 → Int32 → Int32 → hn → Option (Int32 × hn)) k, k < 64 → B_Md_stall_10 c K K' (nI wh) (nI (plR S H i)) (nI (i + 1)) (nI k) (nI (cR S H (H - 1 - i) (plR S H i))) N = (if S (i + 1) k = true ∧ dst (plR S H i) k + cR S H (H - 1 - (i + 1)) k = cR S H (H - 1 - i) (plR S H i) then K (nI wh) (nI k) (nI (i + 1 + 1)) N else K' (nI wh) (nI (plR S H i)) (nI (i + 1)) (nI (k + 1)) (nI (cR S H (H - 1 - i) (plR S H i))) N) := by
        intro K' k hk
        have e2 : ((64 : Int32) * nI (i + 1)) + nI k = nI (64 * (i + 1) + k) := by rw [show (64 : Int32) = nI 64 from rfl, nI_m, nI_a]
        have x2 : hn_ix 1536 (nI (64 * (i + 1) + k)) = true := ix_ok (by omega) (by decide)
        have c2 : (nI (64 * (i + 1) + k)).toNatClampNeg = 64 * (i + 1) + k := nI_lt31 (by omega)
        by_cases q : S (i + 1) k = true
        · have vk : N.1 95 (64 * (i + 1) + k) = nI (cR S H (H - 1 - (i + 1)) k) := by rw [r0 (i + 1) k (by omega) hk, q]; rfl
          obtain ⟨-, g2⟩ := far_le (cb (H - 1 - (i + 1)) k (by omega) hk)
          have b1 := cb (H - 1 - (i + 1)) k (by omega) hk
          have b2 := cb (H - 1 - i) (plR S H i) (by omega) a64
          have b3 := dst_le a64 hk
          by_cases q2 : dst (plR S H i) k + cR S H (H - 1 - (i + 1)) k = cR S H (H - 1 - i) (plR S H i)
          · have q3 : nI (cR S H (H - 1 - (i + 1)) k + dst (plR S H i) k) = nI (cR S H (H - 1 - i) (plR S H i)) := by rw [← q2, Nat.add_comm]
            rw [if_pos ⟨q, q2⟩]
            simp only [B_Md_stall_10, e2, x2, hg_T, c2, vk, g2, ↓reduceIte, md_steps a64 hk, hbN_e, nI_a, q3, ← nI_succ]
          · have q3 : ¬ nI (cR S H (H - 1 - (i + 1)) k + dst (plR S H i) k) = nI (cR S H (H - 1 - i) (plR S H i)) := fun e => q2 (by have := (nI_eqi (by omega) (by omega)).mp e; omega)
            rw [if_neg (fun z => q2 z.2)]
            simp only [B_Md_stall_10, e2, x2, hg_T, c2, vk, g2, ↓reduceIte, md_steps a64 hk, hbN_e, nI_a, q3, ← nI_succ]
        · have q' : S (i + 1) k = false := by simpa using q
          have vk : N.1 95 (64 * (i + 1) + k) = (100000000 : Int32) := by rw [r0 (i + 1) k (by omega) hk, q']; rfl
          have g2 : (100000000 : Int32) ≤ (100000000 : Int32) := by decide
          rw [if_neg (fun z => q z.1)]
          simp only [B_Md_stall_10, e2, x2, hg_T, c2, vk, g2, ↓reduceIte, ← nI_succ]
      refine it_wp (B := B_Md_stall_10 c K) (z := fun _ _ _ _ _ _ => none) (fun K' k (_ : Unit) => K' (nI wh) (nI (plR S H i)) (nI (i + 1)) (nI k) (nI (cR S H (H - 1 - i) (plR S H i))) N) (plR S H (i + 1)) (fun _ _ => True)
        (Q := fun x => x = K (nI wh) (nI (plR S H (i + 1))) (nI (i + 1 + 1)) N) ?_ ?_ (n := hN) (k := 0) (s := ()) (by omega) (hN_big (by omega)) trivial
      · intro K' _ _
        rw [body K' _ y1, if_pos ⟨y2, by rw [cm]; exact y3⟩]
      · intro K' k _ hk _
        right
        refine ⟨(), trivial, ?_⟩
        rw [body K' k (by omega), if_neg (fun z => by have := y4 k hk z.1; rw [← cm] at this; omega)]
  refine it_wp (B := B_Md_stall_6 c) (z := fun _ _ _ _ _ => none) (fun K k (s : Int32 × Int32) => K v s.1 s.2 (nI k) N) 64
    (fun k s => (anyF (S 0) k = false → s.1 = nI FARM ∧ s.2 = -1 ∧ mnF (S 0) (fun e => cR S H (H - 1) e) k = BIG) ∧ (anyF (S 0) k = true → s.1 = nI (mnF (S 0) (fun e => cR S H (H - 1) e) k) ∧ s.2 = nI (agF (S 0) (fun e => cR S H (H - 1) e) k) ∧ mnF (S 0) (fun e => cR S H (H - 1) e) k < BIG))
    (Q := fun x => x = some ((if v = -1 then nI (cR S H (H - 1) (plR S H 0)) else nI (plR S H v.toNatClampNeg)), N)) ?_ ?_ (n := hN) (k := 0) (s := (100000000, -1)) (by omega) (hN_big (by omega)) ⟨fun _ => ⟨rfl, rfl, rfl⟩, fun q => absurd (show false = true from q) (by decide)⟩
  · rintro K ⟨a, b⟩ ⟨-, hh⟩
    obtain ⟨e1, e2, -⟩ := hh (anyF_iff.mpr (hS 0))
    dsimp only at e1 e2
    have g : (64 : Int32) ≤ nI 64 := by decide
    have pe : plR S H 0 = agF (S 0) (fun e => cR S H (H - 1) e) 64 := rfl
    rw [← pe] at e2
    rcases hv with rfl | ⟨wh, hwh, rfl⟩
    · obtain ⟨-, -, y3, -⟩ := ag_ok big0
      rw [if_pos rfl, pe, y3]
      simp only [B_Md_stall_6, g, ↓reduceIte, e1]
    · have nm : ¬ nI wh = (-1 : Int32) := nI_nm (by omega)
      rw [if_neg nm, nI_lt31 (by omega)]
      simp only [B_Md_stall_6, g, ↓reduceIte, nm, e2]
      exact l9 wh hwh
  · rintro K k ⟨a, b⟩ hk ⟨hn0, hn1⟩
    dsimp only at hn0 hn1
    right
    have g : ¬ (64 : Int32) ≤ nI k := nI_ge (b := 64) hk (by decide)
    have x1 : hn_ix 1536 (nI k) = true := ix_ok (by omega) (by decide)
    have c1 : (nI k).toNatClampNeg = k := nI_lt31 (by omega)
    have vk : N.1 95 k = rsV (S 0 k) (cR S H (H - 1) k) := by have := r0 0 k (by omega) hk; rwa [Nat.mul_zero, Nat.zero_add, Nat.sub_zero] at this
    have b1 := cb (H - 1) k (by omega) hk
    by_cases q : S 0 k = true
    · have vk' : N.1 95 k = nI (cR S H (H - 1) k) := by rw [vk, q]; rfl
      have an : anyF (S 0) (k + 1) = true := by rw [anyF, q, Bool.or_true]
      by_cases lt : ¬ a ≤ nI (cR S H (H - 1) k)
      · have lt' : cR S H (H - 1) k < mnF (S 0) (fun e => cR S H (H - 1) e) k := by
          by_cases qa : anyF (S 0) k = true
          · obtain ⟨h1', -, h3'⟩ := hn1 qa
            rw [h1', nI_lei (by omega) (by omega)] at lt; omega
          · have qa' : anyF (S 0) k = false := by simpa using qa
            rw [(hn0 qa').2.2]; exact b1
        refine ⟨(nI (cR S H (H - 1) k), nI k), ⟨fun z => by rw [an] at z; exact absurd z (by decide), fun _ => ?_⟩, ?_⟩
        · rw [mnF, agF, if_pos ⟨q, lt'⟩, if_pos ⟨q, lt'⟩]; exact ⟨rfl, rfl, b1⟩
        · simp only [B_Md_stall_6, B_Md_stall_7, B_Md_stall_8, g, ↓reduceIte, x1, hg_T, c1, vk', lt, ← nI_succ]
      · have le : a ≤ nI (cR S H (H - 1) k) := by
          by_cases z : a ≤ nI (cR S H (H - 1) k)
          · exact z
          · exact absurd z lt
        have qa : anyF (S 0) k = true := by
          by_cases qa : anyF (S 0) k = true
          · exact qa
          · have qa' : anyF (S 0) k = false := by simpa using qa
            rw [(hn0 qa').1] at le
            exact absurd le (far_le b1).2
        obtain ⟨h1', h2', h3'⟩ := hn1 qa
        have ge : ¬ cR S H (H - 1) k < mnF (S 0) (fun e => cR S H (H - 1) e) k := by
          rw [h1', nI_lei (by omega) (by omega)] at le; omega
        refine ⟨(a, b), ⟨fun z => by rw [an] at z; exact absurd z (by decide), fun _ => ?_⟩, ?_⟩
        · rw [mnF, agF, if_neg (fun z => ge z.2), if_neg (fun z => ge z.2)]; exact ⟨h1', h2', h3'⟩
        · simp only [B_Md_stall_6, B_Md_stall_7, B_Md_stall_8, g, ↓reduceIte, x1, hg_T, c1, vk', le, ← nI_succ]
    · have q' : S 0 k = false := by simpa using q
      have vk' : N.1 95 k = (100000000 : Int32) := by rw [vk, q']; rfl
      have le : a ≤ (100000000 : Int32) := by
        by_cases qa : anyF (S 0) k = true
        · obtain ⟨h1', -, h3'⟩ := hn1 qa
          rw [h1']; exact nI_le (b := 100000000) (by omega) (by decide)
        · have qa' : anyF (S 0) k = false := by simpa using qa
          rw [(hn0 qa').1]; exact Int32.le_refl _
      refine ⟨(a, b), ?_, ?_⟩
      · rw [anyF, q', Bool.or_false, mnF, agF, if_neg (fun z => q z.1), if_neg (fun z => q z.1)]
        exact ⟨hn0, hn1⟩
      · simp only [B_Md_stall_6, B_Md_stall_7, B_Md_stall_8, g, ↓reduceIte, x1, hg_T, c1, vk', le, ← nI_succ]
