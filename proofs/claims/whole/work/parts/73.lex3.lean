/-! CHAPEL: the class's tape, token by token -/
def skp (t : Nat → Nat) (n p : Nat) : Nat := rE cB t (n - p) p
def tE (t : Nat → Nat) (n p : Nat) : Nat := if cL (t p) then rE cL t (n - p) p else if cD (t p) then rE cD t (n - p) p else p + 1
def kd (t : Nat → Nat) (n p : Nat) : Nat := if n ≤ p then 1 else if cL (t p) then (if tE t n p - p ≤ 8 then kw t p (tE t n p - p) else 0) else if cD (t p) then (if tE t n p - p ≤ 4 then 2 else 0) else if cS (t p) then t p else 0
def tapP (t : Nat → Nat) (n : Nat) (N : hn) : Prop := N.1 3 1 = nI n ∧ n ≤ 1000 ∧ ∀ i, i < n → N.1 4 i = nI (t i) ∧ t i < 128
def atP (t : Nat → Nat) (n p : Nat) (N : hn) : Prop := N.1 3 3 = nI p ∧ N.1 3 4 = nI (kd t n p) ∧ (kd t n p = 2 → N.1 3 5 = nI (nv t p (tE t n p - p))) ∧ (128 ≤ kd t n p → N.2 3 6 = lN (wv 32 t p (tE t n p - p))) ∧ (p < n → N.1 3 2 = nI (tE t n p))
def off3 (N N' : hn) : Prop := (∀ b, b ≠ 3 → N'.1 b = N.1 b) ∧ N'.1 3 1 = N.1 3 1 ∧ (∀ b, b ≠ 3 → N'.2 b = N.2 b)
theorem off3.refl {N : hn} : off3 N N := ⟨fun _ _ => rfl, rfl, fun _ _ => rfl⟩
theorem off3.trans {N N1 N2 : hn} (h : off3 N N1) (h2 : off3 N1 N2) : off3 N N2 := ⟨fun b hb => (h2.1 b hb).trans (h.1 b hb), h2.2.1.trans h.2.1, fun b hb => (h2.2.2 b hb).trans (h.2.2 b hb)⟩
theorem off3.w {N : hn} {k : Nat} {v : Int32} (hk : k ≠ 1) : off3 N (hn_wI N 3 k v) := ⟨fun b hb => wI_o hb, wI_n (Ne.symm hk), fun _ _ => rfl⟩
theorem off3.l {N : hn} {k : Nat} {v : Int64} : off3 N (hn_wL N 3 k v) := ⟨fun _ _ => rfl, rfl, fun b hb => wL_o hb⟩
theorem tapP.off {t : Nat → Nat} {n : Nat} {N N' : hn} (h : tapP t n N) (ho : off3 N N') : tapP t n N' := ⟨by rw [ho.2.1]; exact h.1, h.2.1, fun i hi => by rw [ho.1 4 (by decide)]; exact h.2.2 i hi⟩
theorem tE_b {t : Nat → Nat} {n p : Nat} (hp : p < n) : p < tE t n p ∧ tE t n p ≤ n := by
  obtain ⟨m, hm⟩ : ∃ m, n - p = m + 1 := ⟨n - p - 1, by omega⟩
  unfold tE
  rw [hm]
  by_cases q : cL (t p) = true
  · rw [if_pos q, rE, if_pos q]
    have := rE_b (f := cL) (t := t) m (p + 1)
    omega
  · rw [if_neg q]
    by_cases q2 : cD (t p) = true
    · rw [if_pos q2, rE, if_pos q2]
      have := rE_b (f := cD) (t := t) m (p + 1)
      omega
    · rw [if_neg q2]; omega
theorem skp_b {t : Nat → Nat} {n p : Nat} (hp : p ≤ n) : p ≤ skp t n p ∧ skp t n p ≤ n := by
  have := rE_b (f := cB) (t := t) (n - p) p
  unfold skp; omega
theorem isL_t {c m : Nat} (hm : m < 128) {N : hn} : F_Tape_isLetter c (nI m) N = some (if cL m then 1 else 0, N) := by
  have e1 : (nI m < (97 : Int32)) ↔ m < 97 := nI_lti (b := 97) (by omega) (by decide)
  have e2 : ((122 : Int32) < nI m) ↔ 122 < m := nI_lti (a := 122) (by decide) (by omega)
  unfold cL
  by_cases q1 : m < 97
  · have g1 := e1.mpr q1
    have : ¬ 97 ≤ m := by omega
    simp only [F_Tape_isLetter, g1, ↓reduceIte, this, decide_false, Bool.false_and, Bool.false_eq_true]
  · have g1 : ¬ nI m < (97 : Int32) := fun z => q1 (e1.mp z)
    by_cases q2 : 122 < m
    · have g2 := e2.mpr q2
      have : ¬ m ≤ 122 := by omega
      simp only [F_Tape_isLetter, g1, g2, ↓reduceIte, this, decide_false, Bool.and_false, Bool.false_eq_true]
    · have g2 : ¬ (122 : Int32) < nI m := fun z => q2 (e2.mp z)
      have h1 : 97 ≤ m := by omega
      have h2 : m ≤ 122 := by omega
      simp only [F_Tape_isLetter, g1, g2, ↓reduceIte, h1, h2, decide_true, Bool.and_self]
theorem isD_t {c m : Nat} (hm : m < 128) {N : hn} : F_Tape_isDigit c (nI m) N = some (if cD m then 1 else 0, N) := by
  have e1 : (nI m < (48 : Int32)) ↔ m < 48 := nI_lti (b := 48) (by omega) (by decide)
  have e2 : ((57 : Int32) < nI m) ↔ 57 < m := nI_lti (a := 57) (by decide) (by omega)
  unfold cD
  by_cases q1 : m < 48
  · have g1 := e1.mpr q1
    have : ¬ 48 ≤ m := by omega
    simp only [F_Tape_isDigit, g1, ↓reduceIte, this, decide_false, Bool.false_and, Bool.false_eq_true]
  · have g1 : ¬ nI m < (48 : Int32) := fun z => q1 (e1.mp z)
    by_cases q2 : 57 < m
    · have g2 := e2.mpr q2
      have : ¬ m ≤ 57 := by omega
      simp only [F_Tape_isDigit, g1, g2, ↓reduceIte, this, decide_false, Bool.and_false, Bool.false_eq_true]
    · have g2 : ¬ (57 : Int32) < nI m := fun z => q2 (e2.mp z)
      have h1 : 48 ≤ m := by omega
      have h2 : m ≤ 57 := by omega
      simp only [F_Tape_isDigit, g1, g2, ↓reduceIte, h1, h2, decide_true, Bool.and_self]
theorem isB_t {c m : Nat} (hm : m < 128) {N : hn} : F_Tape_isBlank c (nI m) N = some (if cB m then 1 else 0, N) := by
  have e1 : (nI m = (10 : Int32)) ↔ m = 10 := nI_eqi (b := 10) (by omega) (by decide)
  have e2 : (nI m = (32 : Int32)) ↔ m = 32 := nI_eqi (b := 32) (by omega) (by decide)
  unfold cB
  by_cases q1 : m = 10
  · have d1 : decide (m = 10) = true := by simp [q1]
    have g1 := e1.mpr q1
    simp only [F_Tape_isBlank, g1, ↓reduceIte, d1, Bool.true_or]
  · have g1 : ¬ nI m = (10 : Int32) := fun z => q1 (e1.mp z)
    by_cases q2 : m = 32
    · have d2 : decide (m = 32) = true := by simp [q2]
      have g2 := e2.mpr q2
      have g3 : ¬ (32 : Int32) = 10 := by decide
      simp only [F_Tape_isBlank, g2, g3, ↓reduceIte, d2, Bool.or_true]
    · have g2 : ¬ nI m = (32 : Int32) := fun z => q2 (e2.mp z)
      simp only [F_Tape_isBlank, g1, g2, ↓reduceIte, q1, q2, decide_false, Bool.or_self, Bool.false_eq_true]
theorem takeLetters_ok {c n p : Nat} {t : Nat → Nat} {N : hn} (ht : tapP t n N) (hp : p < n) (hl : cL (t p) = true) (h32 : N.1 3 2 = nI p) (h33 : N.1 3 3 = nI p) :
    ∃ s, F_Tape_takeLetters c N = some s ∧ off3 N s ∧ s.1 3 2 = nI (tE t n p) ∧ s.1 3 3 = nI p ∧ s.2 3 6 = lN (wv 32 t p (tE t n p - p)) := by
  have hn' := ht.2.1
  have eT : tE t n p = rE cL t (n - p) p := by unfold tE; rw [if_pos hl]
  obtain ⟨b1, b2⟩ := tE_b (t := t) hp
  obtain ⟨e, he⟩ : ∃ e, e = tE t n p := ⟨_, rfl⟩
  rw [← he] at eT b1 b2 ⊢
  simp only [F_Tape_takeLetters, hl_e]
  refine it_wp (B := B_Tape_takeLetters_1 c) (z := fun _ => none) (fun K _ (s : hn) => K s) e
    (fun k s => off3 N s ∧ s.1 3 2 = nI k ∧ s.1 3 3 = nI p ∧ s.2 3 6 = lN (wv 32 t p (k - p)) ∧ p ≤ k)
    (Q := fun x => ∃ s, x = some s ∧ off3 N s ∧ s.1 3 2 = nI e ∧ s.1 3 3 = nI p ∧ s.2 3 6 = lN (wv 32 t p (e - p))) ?_ ?_ (n := hN) (k := p) (s := hn_wL N 3 6 (0 : Int64)) (by omega) (hN_big (by omega)) ⟨off3.l, h32, h33, by rw [wL_s, Nat.sub_self]; rfl, Nat.le_refl _⟩
  · rintro K s ⟨i1, i2, i3, i4, -⟩
    have hs := ht.off i1
    refine ⟨s, ?_, i1, i2, i3, i4⟩
    by_cases q : e = n
    · have g : nI n ≤ nI e := (nI_lei (by omega) (by omega)).mpr (by omega)
      simp only [B_Tape_takeLetters_1, hs.1, i2, g, ↓reduceIte]
    · have g : ¬ nI n ≤ nI e := fun z => by have := (nI_lei (by omega) (by omega)).mp z; omega
      have x1 : hn_ix 1000 (nI e) = true := ix_ok (by omega) (by decide)
      have c1 : (nI e).toNatClampNeg = e := nI_lt31 (by omega)
      have ne : cL (t e) = false := by
        have := rE_out (f := cL) (t := t) (n - p) p (by omega)
        rw [← eT] at this; exact this
      obtain ⟨t1, t2⟩ := hs.2.2 e (by omega)
      simp only [B_Tape_takeLetters_1, hs.1, i2, g, ↓reduceIte, x1, hg_T, c1, t1, isL_t t2, ne, Bool.false_eq_true, hbN_e]
  · rintro K k s hk ⟨i1, i2, i3, i4, i5⟩
    right
    have hs := ht.off i1
    have g : ¬ nI n ≤ nI k := fun z => by have := (nI_lei (by omega) (by omega)).mp z; omega
    have x1 : hn_ix 1000 (nI k) = true := ix_ok (by omega) (by decide)
    have c1 : (nI k).toNatClampNeg = k := nI_lt31 (by omega)
    have ne : cL (t k) = true := rE_in (f := cL) (t := t) (n - p) p k i5 (by rw [← eT]; exact hk)
    obtain ⟨t1, t2⟩ := hs.2.2 k (by omega)
    have z : ¬ (1 : Int32) = 0 := by decide
    have hl' := ne
    simp only [cL, Bool.and_eq_true, decide_eq_true_eq] at hl'
    have ed : ((nI (t k) - (97 : Int32)) + (1 : Int32)).toInt64 = lN (t k - 96) := by
      rw [show (97 : Int32) = nI 97 from rfl, show (1 : Int32) = nI 1 from rfl, nI_s (by omega), nI_a, nI_64 (by omega)]
      exact congrArg lN (by omega)
    have ew : lN (wv 32 t p (k - p)) * (32 : Int64) + lN (t k - 96) = lN (wv 32 t p (k + 1 - p)) := by
      rw [show (32 : Int64) = lN 32 from rfl, lN_m, lN_a, show k + 1 - p = (k - p) + 1 by omega, wv, show p + (k - p) = k by omega]
      exact congrArg lN (by omega)
    refine ⟨hn_wI (hn_wL s 3 6 (lN (wv 32 t p (k + 1 - p)))) 3 2 (nI (k + 1)), ⟨(i1.trans off3.l).trans (off3.w (by decide)), wI_s, by rw [wI_n (by decide)]; exact i3, by rw [wI_2, wL_s], by omega⟩, ?_⟩
    simp only [B_Tape_takeLetters_1, hs.1, i2, g, ↓reduceIte, x1, hg_T, c1, t1, isL_t t2, ne, hbN_e, z, hl_e, i4, ed, ew, wL_1, ← nI_succ]
def xWord (c : Nat) (N : hn) : Option hn := hvN (F_Tape_takeLetters c N) fun N7 => (if ((N7.1 3 2) - (N7.1 3 3)) ≤ (8 : Int32) then hbN (F_Tape_kindOfWord c N7) fun r9 N8 => B_Tape_next_3 c r9 N8 else B_Tape_next_3 c (0 : Int32) N7)
theorem nextWord_ok {c n p : Nat} {t : Nat → Nat} {N : hn} (ht : tapP t n N) (hp : p < n) (hl : cL (t p) = true) (h32 : N.1 3 2 = nI p) (h33 : N.1 3 3 = nI p) :
    ∃ N', xWord c N = some N' ∧ off3 N N' ∧ atP t n p N' := by
  have hn' := ht.2.1
  obtain ⟨b1, b2⟩ := tE_b (t := t) hp
  have kE : kd t n p = if tE t n p - p ≤ 8 then kw t p (tE t n p - p) else 0 := by unfold kd; rw [if_neg (by omega), if_pos hl]
  obtain ⟨s, i0, i1, i2, i3, i4⟩ := takeLetters_ok (c := c) ht hp hl h32 h33
  have hs := ht.off i1
  obtain ⟨e, he⟩ : ∃ e, e = tE t n p := ⟨_, rfl⟩
  rw [← he] at b1 b2 kE i2 i4
  have es : nI e - nI p = nI (e - p) := nI_s (by omega)
  by_cases q : e - p ≤ 8
  · have g : nI (e - p) ≤ (8 : Int32) := (nI_lei (b := 8) (by omega) (by decide)).mpr q
    have kk := kindOfWord_ok (c := c) hn' b2 (by omega) i3 i2 hs.2.2
    rw [if_pos q] at kE
    have kb := kw_b t p (e - p)
    refine ⟨hn_wI s 3 4 (nI (kw t p (e - p))), ?_, i1.trans (off3.w (by decide)), ?_, ?_, ?_, ?_, ?_⟩
    · simp only [xWord, B_Tape_next_3, i0, hvN_e, i2, i3, es, g, ↓reduceIte, kk, hbN_e, hl_e]
    · rw [wI_n (by decide)]; exact i3
    · rw [wI_s, kE]
    · intro z; rw [kE] at z; omega
    · intro _; rw [wI_2, ← he]; exact i4
    · intro _; rw [wI_n (by decide), ← he]; exact i2
  · have g : ¬ nI (e - p) ≤ (8 : Int32) := fun z => q ((nI_lei (b := 8) (by omega) (by decide)).mp z)
    rw [if_neg q] at kE
    refine ⟨hn_wI s 3 4 (0 : Int32), ?_, i1.trans (off3.w (by decide)), ?_, ?_, ?_, ?_, ?_⟩
    · simp only [xWord, B_Tape_next_3, i0, hvN_e, i2, i3, es, g, ↓reduceIte, hl_e]
    · rw [wI_n (by decide)]; exact i3
    · rw [wI_s, kE]; rfl
    · intro z; rw [kE] at z; omega
    · intro z; rw [kE] at z; omega
    · intro _; rw [wI_n (by decide), ← he]; exact i2
theorem takeDigits_ok {c n p : Nat} {t : Nat → Nat} {N : hn} (ht : tapP t n N) (hp : p < n) (hl : cL (t p) = false) (hd : cD (t p) = true) (h32 : N.1 3 2 = nI p) (h33 : N.1 3 3 = nI p) :
    ∃ s, F_Tape_takeDigits c N = some s ∧ off3 N s ∧ s.1 3 2 = nI (tE t n p) ∧ s.1 3 3 = nI p ∧ s.1 3 5 = nI (nv t p (tE t n p - p)) := by
  have hn' := ht.2.1
  have eT : tE t n p = rE cD t (n - p) p := by unfold tE; rw [if_neg (by rw [hl]; decide), if_pos hd]
  obtain ⟨b1, b2⟩ := tE_b (t := t) hp
  obtain ⟨e, he⟩ : ∃ e, e = tE t n p := ⟨_, rfl⟩
  rw [← he] at eT b1 b2 ⊢
  simp only [F_Tape_takeDigits, hl_e]
  refine it_wp (B := B_Tape_takeDigits_1 c) (z := fun _ => none) (fun K _ (s : hn) => K s) e
    (fun k s => off3 N s ∧ s.1 3 2 = nI k ∧ s.1 3 3 = nI p ∧ s.1 3 5 = nI (nv t p (k - p)) ∧ p ≤ k)
    (Q := fun x => ∃ s, x = some s ∧ off3 N s ∧ s.1 3 2 = nI e ∧ s.1 3 3 = nI p ∧ s.1 3 5 = nI (nv t p (e - p))) ?_ ?_ (n := hN) (k := p) (s := hn_wI N 3 5 (0 : Int32)) (by omega) (hN_big (by omega)) ⟨off3.w (by decide), by rw [wI_n (by decide)]; exact h32, by rw [wI_n (by decide)]; exact h33, by rw [wI_s, Nat.sub_self]; rfl, Nat.le_refl _⟩
  · rintro K s ⟨i1, i2, i3, i4, -⟩
    have hs := ht.off i1
    refine ⟨s, ?_, i1, i2, i3, i4⟩
    by_cases q : e = n
    · have g : nI n ≤ nI e := (nI_lei (by omega) (by omega)).mpr (by omega)
      simp only [B_Tape_takeDigits_1, hs.1, i2, g, ↓reduceIte]
    · have g : ¬ nI n ≤ nI e := fun z => by have := (nI_lei (by omega) (by omega)).mp z; omega
      have x1 : hn_ix 1000 (nI e) = true := ix_ok (by omega) (by decide)
      have c1 : (nI e).toNatClampNeg = e := nI_lt31 (by omega)
      have ne : cD (t e) = false := by
        have := rE_out (f := cD) (t := t) (n - p) p (by omega)
        rw [← eT] at this; exact this
      obtain ⟨t1, t2⟩ := hs.2.2 e (by omega)
      simp only [B_Tape_takeDigits_1, hs.1, i2, g, ↓reduceIte, x1, hg_T, c1, t1, isD_t t2, ne, Bool.false_eq_true, hbN_e]
  · rintro K k s hk ⟨i1, i2, i3, i4, i5⟩
    right
    have hs := ht.off i1
    have g : ¬ nI n ≤ nI k := fun z => by have := (nI_lei (by omega) (by omega)).mp z; omega
    have x1 : hn_ix 1000 (nI k) = true := ix_ok (by omega) (by decide)
    have c1 : (nI k).toNatClampNeg = k := nI_lt31 (by omega)
    have ne : cD (t k) = true := rE_in (f := cD) (t := t) (n - p) p k i5 (by rw [← eT]; exact hk)
    obtain ⟨t1, t2⟩ := hs.2.2 k (by omega)
    have z : ¬ (1 : Int32) = 0 := by decide
    have hl' := ne
    simp only [cD, Bool.and_eq_true, decide_eq_true_eq] at hl'
    have ew : nI (nv t p (k - p)) * (10 : Int32) + (nI (t k) - (48 : Int32)) = nI (nv t p (k + 1 - p)) := by
      rw [show (10 : Int32) = nI 10 from rfl, show (48 : Int32) = nI 48 from rfl, nI_s (by omega), nI_m, nI_a, show k + 1 - p = (k - p) + 1 by omega, nv, show p + (k - p) = k by omega]
      exact congrArg nI (by omega)
    refine ⟨hn_wI (hn_wI s 3 5 (nI (nv t p (k + 1 - p)))) 3 2 (nI (k + 1)), ⟨(i1.trans (off3.w (by decide))).trans (off3.w (by decide)), wI_s, by rw [wI_n (by decide), wI_n (by decide)]; exact i3, by rw [wI_n (by decide), wI_s], by omega⟩, ?_⟩
    have w2 : (hn_wI s 3 5 (nI (nv t p (k + 1 - p)))).1 3 2 = nI k := by rw [wI_n (by decide)]; exact i2
    simp only [B_Tape_takeDigits_1, hs.1, i2, g, ↓reduceIte, x1, hg_T, c1, t1, isD_t t2, ne, hbN_e, z, hl_e, i4, ew, w2, ← nI_succ]
def xNum (c : Nat) (N : hn) : Option hn := hvN (F_Tape_takeDigits c N) fun N6 => (if ((N6.1 3 2) - (N6.1 3 3)) ≤ (4 : Int32) then B_Tape_next_4 c (2 : Int32) N6 else B_Tape_next_4 c (0 : Int32) N6)
theorem nextNumber_ok {c n p : Nat} {t : Nat → Nat} {N : hn} (ht : tapP t n N) (hp : p < n) (hl : cL (t p) = false) (hd : cD (t p) = true) (h32 : N.1 3 2 = nI p) (h33 : N.1 3 3 = nI p) :
    ∃ N', xNum c N = some N' ∧ off3 N N' ∧ atP t n p N' := by
  have hn' := ht.2.1
  obtain ⟨b1, b2⟩ := tE_b (t := t) hp
  have kE : kd t n p = if tE t n p - p ≤ 4 then 2 else 0 := by unfold kd; rw [if_neg (by omega), if_neg (by rw [hl]; decide), if_pos hd]
  obtain ⟨s, i0, i1, i2, i3, i4⟩ := takeDigits_ok (c := c) ht hp hl hd h32 h33
  have hs := ht.off i1
  obtain ⟨e, he⟩ : ∃ e, e = tE t n p := ⟨_, rfl⟩
  rw [← he] at b1 b2 kE i2 i4
  have es : nI e - nI p = nI (e - p) := nI_s (by omega)
  by_cases q : e - p ≤ 4
  · have g : nI (e - p) ≤ (4 : Int32) := (nI_lei (b := 4) (by omega) (by decide)).mpr q
    rw [if_pos q] at kE
    refine ⟨hn_wI s 3 4 (2 : Int32), ?_, i1.trans (off3.w (by decide)), ?_, ?_, ?_, ?_, ?_⟩
    · simp only [xNum, B_Tape_next_4, i0, hvN_e, i2, i3, es, g, ↓reduceIte, hl_e]
    · rw [wI_n (by decide)]; exact i3
    · rw [wI_s, kE]; rfl
    · intro _; rw [wI_n (by decide), ← he]; exact i4
    · intro z; rw [kE] at z; omega
    · intro _; rw [wI_n (by decide), ← he]; exact i2
  · have g : ¬ nI (e - p) ≤ (4 : Int32) := fun z => q ((nI_lei (b := 4) (by omega) (by decide)).mp z)
    rw [if_neg q] at kE
    refine ⟨hn_wI s 3 4 (0 : Int32), ?_, i1.trans (off3.w (by decide)), ?_, ?_, ?_, ?_, ?_⟩
    · simp only [xNum, B_Tape_next_4, i0, hvN_e, i2, i3, es, g, ↓reduceIte, hl_e]
    · rw [wI_n (by decide)]; exact i3
    · rw [wI_s, kE]; rfl
    · intro z; rw [kE] at z; omega
    · intro z; rw [kE] at z; omega
    · intro _; rw [wI_n (by decide), ← he]; exact i2
