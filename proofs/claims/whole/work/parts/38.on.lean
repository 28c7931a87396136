/-! what falls on a place: both sides -/
def orF (f : Nat → Int32) (S : Nat → Bool) : Nat → Int32
  | 0 => 0
  | n + 1 => orF f S n ||| (if S n then f n else 0)
theorem orF_cong {f g : Nat → Int32} {S T : Nat → Bool} : ∀ {n : Nat}, (∀ i, i < n → S i = T i) → (∀ i, i < n → S i = true → f i = g i) → orF f S n = orF g T n
  | 0, _, _ => rfl
  | n + 1, h, h2 => by
    rw [orF, orF, orF_cong (fun i hi => h i (by omega)) (fun i hi => h2 i (by omega)), ← h n (by omega)]
    by_cases e : S n = true
    · rw [if_pos e, if_pos e, h2 n (by omega) e]
    · rw [if_neg e, if_neg e]
theorem orF_ext {f : Nat → Int32} {S : Nat → Bool} {m n : Nat} (hmn : m ≤ n) (h : ∀ i, m ≤ i → i < n → S i = false) : orF f S n = orF f S m := by
  induction n with
  | zero => have : m = 0 := by omega
            subst this; rfl
  | succ n ih =>
    rcases Nat.lt_or_ge m (n + 1) with q | q
    · rw [orF, ih (by omega) (fun i h1 h2 => h i h1 (by omega)), h n (by omega) (by omega)]
      simp
    · have : m = n + 1 := by omega
      subst this; rfl
theorem bt_orF {f : Nat → Int32} {S : Nat → Bool} {i : Nat} : ∀ {n : Nat}, bt (orF f S n) i = true ↔ ∃ p, p < n ∧ S p = true ∧ bt (f p) i = true
  | 0 => by
    constructor
    · intro h; rw [orF, b_0] at h; exact absurd h (by decide)
    · rintro ⟨p, hp, -⟩; omega
  | n + 1 => by
    rw [orF, b_or, Bool.or_eq_true, bt_orF (n := n)]
    constructor
    · rintro (⟨p, h1, h2⟩ | h)
      · exact ⟨p, by omega, h2⟩
      · by_cases e : S n = true
        · rw [if_pos e] at h; exact ⟨n, by omega, e, h⟩
        · rw [if_neg e, b_0] at h; exact absurd h (by decide)
    · rintro ⟨p, h1, h2, h3⟩
      by_cases e : p = n
      · subst e; right; rw [if_pos h2]; exact h3
      · left; exact ⟨p, by omega, h2, h3⟩
theorem or_0 (x : Int32) : x ||| 0 = x := by simp
theorem panesOn_ok {c : Nat} {place among : Int32} {N : hn} : F_Light_panesOn c place among N = some (bitsF (fun p => decide (N.1 34 p = place) && bt among p) 12, N) := by
  refine it_wp (B := B_Light_panesOn_1 c) (z := fun _ _ _ _ _ => none) (fun K k (s : Int32) => K place among s (nI k) N) 12 (fun k s => s = bitsF (fun p => decide (N.1 34 p = place) && bt among p) k)
    (Q := fun x => x = some (bitsF (fun p => decide (N.1 34 p = place) && bt among p) 12, N)) ?_ ?_ (n := hN) (k := 0) (s := 0) (by omega) (hN_big (by omega)) rfl
  · intro K s hs
    have g : (12 : Int32) ≤ nI 12 := by decide
    simp only [B_Light_panesOn_1, g, ↓reduceIte, hs]
  · intro K k s hk hs
    right
    refine ⟨_, rfl, ?_⟩
    have g : ¬ (12 : Int32) ≤ nI k := nI_ge (b := 12) hk (by decide)
    have x1 : hn_ix 12 (nI k) = true := ix_ok hk (by decide)
    have c1 : (nI k).toNatClampNeg = k := nI_lt31 (by omega)
    simp only [B_Light_panesOn_1, g, ↓reduceIte, x1, hg_T, c1, bt_sh (show k < 32 by omega), hl_s, bitsF, hs, ← nI_succ]
    by_cases q1 : N.1 34 k = place
    · by_cases q2 : bt among k = true
      · simp only [q1, q2, ↓reduceIte, decide_true, Bool.and_self]
      · have q2' : bt among k = false := by simpa using q2
        simp [q1, q2', or_0]
    · simp [q1, or_0]
theorem colourOf_ok {c v0 : Nat} {bits : Int32} {N : hn} : F_Chapel_colourOf c v0 bits N = some (orF (fun p => N.1 (v0 + 7) p) (fun p => bt bits p) 12, N) := by
  refine it_wp (B := B_Chapel_colourOf_1 c) (z := fun _ _ _ _ _ => none) (fun K k (s : Int32) => K v0 bits s (nI k) N) 12 (fun k s => s = orF (fun p => N.1 (v0 + 7) p) (fun p => bt bits p) k)
    (Q := fun x => x = some (orF (fun p => N.1 (v0 + 7) p) (fun p => bt bits p) 12, N)) ?_ ?_ (n := hN) (k := 0) (s := 0) (by omega) (hN_big (by omega)) rfl
  · intro K s hs
    have g : (12 : Int32) ≤ nI 12 := by decide
    simp only [B_Chapel_colourOf_1, g, ↓reduceIte, hs]
  · intro K k s hk hs
    right
    refine ⟨_, rfl, ?_⟩
    have g : ¬ (12 : Int32) ≤ nI k := nI_ge (b := 12) hk (by decide)
    have x1 : hn_ix 12 (nI k) = true := ix_ok hk (by decide)
    have c1 : (nI k).toNatClampNeg = k := nI_lt31 (by omega)
    simp only [B_Chapel_colourOf_1, g, ↓reduceIte, x1, hg_T, c1, bt_sh (show k < 32 by omega), hl_s, orF, hs, ← nI_succ]
    by_cases q2 : bt bits k = true
    · simp only [q2, ↓reduceIte]
    · have q2' : bt bits k = false := by simpa using q2
      simp [q2', or_0]
theorem ownersOf_ok {c v0 : Nat} (hv : isHold v0) {P : Nat} (hP : P ≤ 12) {bits : Int32} {N : hn} (h5 : N.1 v0 5 = nI P) : F_Hold_ownersOf c v0 bits N = some (orF (fun p => (1 : Int32) <<< (N.1 (v0 + 1) p &&& 31)) (fun p => bt bits p) P, N) := by
  refine it_wp (B := B_Hold_ownersOf_1 c) (z := fun _ _ _ _ _ => none) (fun K k (s : Int32) => K v0 bits s (nI k) N) P (fun k s => s = orF (fun p => (1 : Int32) <<< (N.1 (v0 + 1) p &&& 31)) (fun p => bt bits p) k)
    (Q := fun x => x = some (orF (fun p => (1 : Int32) <<< (N.1 (v0 + 1) p &&& 31)) (fun p => bt bits p) P, N)) ?_ ?_ (n := hN) (k := 0) (s := 0) (by omega) (hN_big (by omega)) rfl
  · intro K s hs
    have g : nI P ≤ nI P := Int32.le_refl _
    simp only [B_Hold_ownersOf_1, h5, g, ↓reduceIte, hs]
  · intro K k s hk hs
    right
    refine ⟨_, rfl, ?_⟩
    have g0 : ¬ nI P ≤ nI k := nI_ge hk (by omega)
    have g : ¬ (12 : Int32) ≤ nI k := nI_ge (b := 12) (by omega) (by decide)
    have x1 : hn_ix 12 (nI k) = true := ix_ok (by omega) (by decide)
    have c1 : (nI k).toNatClampNeg = k := nI_lt31 (by omega)
    simp only [B_Hold_ownersOf_1, h5, g0, g, ↓reduceIte, x1, hg_T, c1, bt_sh (show k < 32 by omega), hl_s, orF, hs, ← nI_succ]
    by_cases q2 : bt bits k = true
    · simp only [q2, ↓reduceIte]
    · have q2' : bt bits k = false := by simpa using q2
      simp [q2', or_0]
theorem panesOf_ok {c v0 : Nat} {gd : Int32} {N : hn} : F_Hold_panesOf c v0 gd N = some (bitsF (fun p => decide (N.1 (v0 + 1) p = gd)) 12, N) := by
  refine it_wp (B := B_Hold_panesOf_1 c) (z := fun _ _ _ _ _ => none) (fun K k (s : Int32) => K v0 gd s (nI k) N) 12 (fun k s => s = bitsF (fun p => decide (N.1 (v0 + 1) p = gd)) k)
    (Q := fun x => x = some (bitsF (fun p => decide (N.1 (v0 + 1) p = gd)) 12, N)) ?_ ?_ (n := hN) (k := 0) (s := 0) (by omega) (hN_big (by omega)) rfl
  · intro K s hs
    have g : (12 : Int32) ≤ nI 12 := by decide
    simp only [B_Hold_panesOf_1, g, ↓reduceIte, hs]
  · intro K k s hk hs
    right
    refine ⟨_, rfl, ?_⟩
    have g : ¬ (12 : Int32) ≤ nI k := nI_ge (b := 12) hk (by decide)
    have x1 : hn_ix 12 (nI k) = true := ix_ok hk (by decide)
    have c1 : (nI k).toNatClampNeg = k := nI_lt31 (by omega)
    simp only [B_Hold_panesOf_1, g, ↓reduceIte, x1, hg_T, c1, hl_s, bitsF, hs, ← nI_succ]
    by_cases q1 : N.1 (v0 + 1) k = gd
    · simp only [q1, ↓reduceIte, decide_true]
    · simp [q1, or_0]
/-! how many -/
def cntN (x n : Nat) : Nat := fb_ct (fun i => x.testBit i) n
theorem bitCount_nat : ∀ x, x < 4096 → ∀ (c : Nat) (N : hn), F_J6_bitCount_0f7a4 c (nI x) N = some (nI (cntN x 12), N) := by
  have h : ∀ a, a < 64 → ∀ b, b < 64 → (let v0 := nI (64 * a + b); let x1 := (v0 - (((v0.toUInt32 >>> ((1 : Int32).toUInt32 &&& Int32.toUInt32 31)).toInt32) &&& (1431655765 : Int32)));
    let x2 := ((x1 &&& (858993459 : Int32)) + (((x1.toUInt32 >>> ((2 : Int32).toUInt32 &&& Int32.toUInt32 31)).toInt32) &&& (858993459 : Int32)));
    let x3 := ((x2 + ((x2.toUInt32 >>> ((4 : Int32).toUInt32 &&& Int32.toUInt32 31)).toInt32)) &&& (252645135 : Int32));
    let x4 := (x3 + ((x3.toUInt32 >>> ((8 : Int32).toUInt32 &&& Int32.toUInt32 31)).toInt32));
    let x5 := (x4 + ((x4.toUInt32 >>> ((16 : Int32).toUInt32 &&& Int32.toUInt32 31)).toInt32));
    (x5 &&& (63 : Int32))) = nI (cntN (64 * a + b) 12) := by decide +kernel
  intro x hx c N
  have e : x = 64 * (x / 64) + x % 64 := by omega
  rw [e]
  exact congrArg (fun y => some (y, N)) (h (x / 64) (by omega) (x % 64) (by omega))
theorem bitCount_ok {c : Nat} {p : Nat → Bool} {N : hn} : F_J6_bitCount_0f7a4 c (bitsF p 12) N = some (nI (fb_ct p 12), N) := by
  obtain ⟨m, h1, h2, h3⟩ := bitsF_nat p 12 (by decide)
  rw [h2, bitCount_nat m (by omega)]
  congr 3
  exact fb_ct_cong h3
theorem ct_ext {p : Nat → Bool} {m n : Nat} (hmn : m ≤ n) (h : ∀ i, m ≤ i → i < n → p i = false) : fb_ct p n = fb_ct p m := by
  induction n with
  | zero => have : m = 0 := by omega
            subst this; rfl
  | succ n ih =>
    rcases Nat.lt_or_ge m (n + 1) with q | q
    · rw [fb_ct_succ, ih (by omega) (fun i h1 h2 => h i h1 (by omega)), h n (by omega) (by omega)]; simp
    · have : m = n + 1 := by omega
      subst this; rfl
/-! the reference's look at a place -/
theorem lightAt_ok {c P : Nat} (hP : P ≤ 12) {place what : Int32} {N : hn} (h4 : N.1 82 4 = nI P) : F_Md_lightAt c place what N =
    some ((if what = 0 then orF (fun p => (1 : Int32) <<< (N.1 88 p &&& 31)) (fun p => decide (N.1 90 p = place)) P else if what = 1 then orF (fun p => N.1 82 (20 + 4 * p)) (fun p => decide (N.1 90 p = place)) P else nI (fb_ct (fun p => decide (N.1 90 p = place)) P)), N) := by
  refine it_wp (B := B_Md_lightAt_1 c) (z := fun _ _ _ _ _ _ _ => none) (fun K k (s : Int32 × Int32 × Int32) => K place what s.1 s.2.1 s.2.2 (nI k) N) P
    (fun k s => s.1 = orF (fun p => (1 : Int32) <<< (N.1 88 p &&& 31)) (fun p => decide (N.1 90 p = place)) k ∧ s.2.1 = orF (fun p => N.1 82 (20 + 4 * p)) (fun p => decide (N.1 90 p = place)) k ∧ s.2.2 = nI (fb_ct (fun p => decide (N.1 90 p = place)) k))
    (Q := fun x => x = some ((if what = 0 then orF (fun p => (1 : Int32) <<< (N.1 88 p &&& 31)) (fun p => decide (N.1 90 p = place)) P else if what = 1 then orF (fun p => N.1 82 (20 + 4 * p)) (fun p => decide (N.1 90 p = place)) P else nI (fb_ct (fun p => decide (N.1 90 p = place)) P)), N)) ?_ ?_ (n := hN) (k := 0) (s := (0, 0, 0)) (by omega) (hN_big (by omega)) ⟨rfl, rfl, rfl⟩
  · rintro K ⟨a, b, d⟩ ⟨h1, h2, h3⟩
    have g : nI P ≤ nI P := Int32.le_refl _
    simp only at h1 h2 h3
    simp only [B_Md_lightAt_1, panes_ok, hbN_s, h4, g, ↓reduceIte, h1, h2, h3]
    split
    · rfl
    · split <;> rfl
  · rintro K k ⟨a, b, d⟩ hk ⟨h1, h2, h3⟩
    simp only at h1 h2 h3
    right
    have g : ¬ nI P ≤ nI k := nI_ge hk (by omega)
    have x1 : hn_ix 12 (nI k) = true := ix_ok (by omega) (by decide)
    have c1 : (nI k).toNatClampNeg = k := nI_lt31 (by omega)
    by_cases q : N.1 90 k = place
    · refine ⟨(a ||| ((1 : Int32) <<< (N.1 88 k &&& 31)), b ||| N.1 82 (20 + 4 * k), d + 1), ⟨?_, ?_, ?_⟩, ?_⟩
      · simp [orF, q, h1]
      · simp [orF, q, h2]
      · simp [fb_ct_succ, q, h3, nI_succ]
      · simp only [B_Md_lightAt_1, panes_ok, hbN_s, h4, g, ↓reduceIte, x1, hg_T, c1, q, ownerOf_ok (show k < 1000 by omega), hl_s, paneOf_3 (show k < 12 by omega), ← nI_succ]
    · refine ⟨(a, b, d), ⟨?_, ?_, ?_⟩, ?_⟩
      · simp [orF, q, h1]
      · simp [orF, q, h2]
      · simp [fb_ct_succ, q, h3]
      · simp only [B_Md_lightAt_1, panes_ok, hbN_s, h4, g, ↓reduceIte, x1, hg_T, c1, q, ← nI_succ]
