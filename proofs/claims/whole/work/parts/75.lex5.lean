/-! CHAPEL: the reference cuts the whole tape -/
def so (t : Nat → Nat) (n p : Nat) : Nat := if n ≤ p then 0 else if cL (t p) then (if tE t n p - p ≤ 8 then 1 else 4) else if cD (t p) then (if tE t n p - p ≤ 4 then 2 else 4) else if cS (t p) then 3 else 4
def va (t : Nat → Nat) (n p : Nat) : Nat := if cL (t p) then wv 37 t p (min (tE t n p - p) 8) else if cD (t p) then nv t p (min (tE t n p - p) 4) else t p
theorem isL_m {c m : Nat} (hm : m < 128) {N : hn} : F_Md_isLetter c (nI m) N = some (if cL m then 1 else 0, N) := isL_t (c := c) hm
theorem isD_m {c m : Nat} (hm : m < 128) {N : hn} : F_Md_isDigit c (nI m) N = some (if cD m then 1 else 0, N) := isD_t (c := c) hm
theorem isS_m {c : Nat} {N : hn} : ∀ m, m < 128 → F_Md_isSignOf c (nI m) N = some (if cS m then 1 else 0, N) := by
  intro m hm
  unfold F_Md_isSignOf cS
  simp only [show ∀ k : Nat, k < 128 → ((nI m = nI k) ↔ m = k) from fun k hk => nI_eqi (by omega) (by omega), show (40 : Int32) = nI 40 from rfl, show (41 : Int32) = nI 41 from rfl, show (59 : Int32) = nI 59 from rfl, show (61 : Int32) = nI 61 from rfl, show (60 : Int32) = nI 60 from rfl, show (43 : Int32) = nI 43 from rfl, show (45 : Int32) = nI 45 from rfl, show (42 : Int32) = nI 42 from rfl, nI_eqi (show m < 2147483648 by omega) (show 40 < 2147483648 by decide), nI_eqi (show m < 2147483648 by omega) (show 41 < 2147483648 by decide), nI_eqi (show m < 2147483648 by omega) (show 59 < 2147483648 by decide), nI_eqi (show m < 2147483648 by omega) (show 61 < 2147483648 by decide), nI_eqi (show m < 2147483648 by omega) (show 60 < 2147483648 by decide), nI_eqi (show m < 2147483648 by omega) (show 43 < 2147483648 by decide), nI_eqi (show m < 2147483648 by omega) (show 45 < 2147483648 by decide), nI_eqi (show m < 2147483648 by omega) (show 42 < 2147483648 by decide)]
  by_cases a1 : m = 40
  · simp [a1]
  · by_cases a2 : m = 41
    · simp [a2]
    · by_cases a3 : m = 59
      · simp [a3]
      · by_cases a4 : m = 61
        · simp [a4]
        · by_cases a5 : m = 60
          · simp [a5]
          · by_cases a6 : m = 43
            · simp [a6]
            · by_cases a7 : m = 45
              · simp [a7]
              · by_cases a8 : m = 42
                · simp [a8]
                · simp [a1, a2, a3, a4, a5, a6, a7, a8]
theorem rank_m {c m : Nat} (hm : m < 128) (hl : cL m = true) {N : hn} : F_Md_rank c (nI m) N = some (nI (m - 96), N) := by
  have h := hl
  simp only [cL, Bool.and_eq_true, decide_eq_true_eq] at h
  have z : ¬ (1 : Int32) = 0 := by decide
  have e : nI m - (96 : Int32) = nI (m - 96) := by rw [show (96 : Int32) = nI 96 from rfl, nI_s (by omega)]
  simp only [F_Md_rank, isL_m hm, hl, ↓reduceIte, hbN_e, z, e]
def tkM (N : hn) (i s v : Nat) : hn := hn_wL (hn_wI N 78 i (nI s)) 80 i (lN v)
def tapM (t : Nat → Nat) (n : Nat) (N : hn) : Prop := N.1 76 3 = nI n ∧ n ≤ 1000 ∧ ∀ i, i < n → N.1 77 i = nI (t i) ∧ t i < 128
theorem cut_word {c n p i : Nat} {t : Nat → Nat} {N : hn} (ht : tapM t n N) (hp : p < n) (hi : i ≤ 1000) (hl : cL (t p) = true) (k17 : Int32 → Int32 → hn → Option hn) :
    F_Md_cutAll_2 c k17 hN (nI i) (nI p) (nI p) (0 : Int64) N = k17 (nI (i + 1)) (nI (tE t n p)) (tkM N i (so t n p) (va t n p)) := by
  have hn' := ht.2.1
  have eT : tE t n p = rE cL t (n - p) p := by unfold tE; rw [if_pos hl]
  obtain ⟨b1, b2⟩ := tE_b (t := t) hp
  have sE : so t n p = if tE t n p - p ≤ 8 then 1 else 4 := by unfold so; rw [if_neg (by omega), if_pos hl]
  have vE : va t n p = wv 37 t p (min (tE t n p - p) 8) := by unfold va; rw [if_pos hl]
  obtain ⟨e, he⟩ : ∃ e, e = tE t n p := ⟨_, rfl⟩
  rw [← he] at eT b1 b2 sE vE ⊢
  have x0 : hn_ix 1002 (nI i) = true := ix_ok (by omega) (by decide)
  have c0 : (nI i).toNatClampNeg = i := nI_lt31 (by omega)
  refine it_wp (B := B_Md_cutAll_2 c k17) (z := fun _ _ _ _ _ => none) (fun K k (v : Int64) => K (nI i) (nI k) (nI p) v N) e
    (fun k v => p ≤ k ∧ v = lN (wv 37 t p (min (k - p) 8)))
    (Q := fun x => x = k17 (nI (i + 1)) (nI e) (tkM N i (so t n p) (va t n p))) ?_ ?_ (n := hN) (k := p) (by omega) (hN_big (by omega)) ⟨Nat.le_refl _, by rw [Nat.sub_self]; rfl⟩
  · rintro K v ⟨-, i2⟩
    have fin : B_Md_cutAll_4 c k17 (nI i) (nI e) (nI p) v N = k17 (nI (i + 1)) (nI e) (tkM N i (so t n p) (va t n p)) := by
      have es : nI e - nI p = nI (e - p) := nI_s (by omega)
      by_cases q : e - p ≤ 8
      · have g : nI (e - p) ≤ (8 : Int32) := (nI_lei (b := 8) (by omega) (by decide)).mpr q
        rw [if_pos q] at sE
        simp only [B_Md_cutAll_4, B_Md_cutAll_5, B_Md_cutAll_11, es, g, ↓reduceIte, x0, hg_T, c0, hl_e, i2, ← nI_succ, tkM, sE, vE]
        rfl
      · have g : ¬ nI (e - p) ≤ (8 : Int32) := fun z => q ((nI_lei (b := 8) (by omega) (by decide)).mp z)
        rw [if_neg q] at sE
        simp only [B_Md_cutAll_4, B_Md_cutAll_5, B_Md_cutAll_11, es, g, ↓reduceIte, x0, hg_T, c0, hl_e, i2, ← nI_succ, tkM, sE, vE]
        rfl
    by_cases q : e = n
    · have g : nI n ≤ nI e := (nI_lei (by omega) (by omega)).mpr (by omega)
      simp only [B_Md_cutAll_2, ht.1, g, ↓reduceIte]
      exact fin
    · have g : ¬ nI n ≤ nI e := fun z => by have := (nI_lei (by omega) (by omega)).mp z; omega
      have x1 : hn_ix 1000 (nI e) = true := ix_ok (by omega) (by decide)
      have c1 : (nI e).toNatClampNeg = e := nI_lt31 (by omega)
      have ne : cL (t e) = false := by
        have := rE_out (f := cL) (t := t) (n - p) p (by omega)
        rw [← eT] at this; exact this
      obtain ⟨t1, t2⟩ := ht.2.2 e (by omega)
      simp only [B_Md_cutAll_2, ht.1, g, ↓reduceIte, x1, hg_T, c1, t1, isL_m t2, ne, Bool.false_eq_true, hbN_e]
      exact fin
  · rintro K k v hk ⟨i1, i2⟩
    right
    have g : ¬ nI n ≤ nI k := fun z => by have := (nI_lei (by omega) (by omega)).mp z; omega
    have x1 : hn_ix 1000 (nI k) = true := ix_ok (by omega) (by decide)
    have c1 : (nI k).toNatClampNeg = k := nI_lt31 (by omega)
    have ne : cL (t k) = true := rE_in (f := cL) (t := t) (n - p) p k i1 (by rw [← eT]; exact hk)
    obtain ⟨t1, t2⟩ := ht.2.2 k (by omega)
    have z : ¬ (1 : Int32) = 0 := by decide
    have es : nI k - nI p = nI (k - p) := nI_s (by omega)
    by_cases q : 8 ≤ k - p
    · have g8 : (8 : Int32) ≤ nI (k - p) := (nI_lei (a := 8) (by decide) (by omega)).mpr q
      refine ⟨v, ⟨by omega, by rw [i2, show min (k + 1 - p) 8 = min (k - p) 8 by omega]⟩, ?_⟩
      simp only [B_Md_cutAll_2, B_Md_cutAll_3, ht.1, g, ↓reduceIte, x1, hg_T, c1, t1, isL_m t2, ne, hbN_e, z, es, g8, ← nI_succ]
    · have g8 : ¬ (8 : Int32) ≤ nI (k - p) := fun y => q ((nI_lei (a := 8) (by decide) (by omega)).mp y)
      refine ⟨((37 : Int64) * v) + (nI (t k - 96)).toInt64, ⟨by omega, ?_⟩, ?_⟩
      · rw [i2, nI_64 (by omega), show (37 : Int64) = lN 37 from rfl, lN_m, lN_a, show min (k + 1 - p) 8 = min (k - p) 8 + 1 by omega, wv, show p + min (k - p) 8 = k by omega]
      · simp only [B_Md_cutAll_2, B_Md_cutAll_3, ht.1, g, ↓reduceIte, x1, hg_T, c1, t1, isL_m t2, ne, hbN_e, z, es, g8, rank_m t2 ne, ← nI_succ]
theorem cut_num {c n p i : Nat} {t : Nat → Nat} {N : hn} (ht : tapM t n N) (hp : p < n) (hi : i ≤ 1000) (hl : cL (t p) = false) (hd : cD (t p) = true) (k17 : Int32 → Int32 → hn → Option hn) :
    F_Md_cutAll_6 c k17 hN (nI i) (nI p) (nI p) (0 : Int64) N = k17 (nI (i + 1)) (nI (tE t n p)) (tkM N i (so t n p) (va t n p)) := by
  have hn' := ht.2.1
  have eT : tE t n p = rE cD t (n - p) p := by unfold tE; rw [if_neg (by rw [hl]; decide), if_pos hd]
  obtain ⟨b1, b2⟩ := tE_b (t := t) hp
  have sE : so t n p = if tE t n p - p ≤ 4 then 2 else 4 := by unfold so; rw [if_neg (by omega), if_neg (by rw [hl]; decide), if_pos hd]
  have vE : va t n p = nv t p (min (tE t n p - p) 4) := by unfold va; rw [if_neg (by rw [hl]; decide), if_pos hd]
  obtain ⟨e, he⟩ : ∃ e, e = tE t n p := ⟨_, rfl⟩
  rw [← he] at eT b1 b2 sE vE ⊢
  have x0 : hn_ix 1002 (nI i) = true := ix_ok (by omega) (by decide)
  have c0 : (nI i).toNatClampNeg = i := nI_lt31 (by omega)
  refine it_wp (B := B_Md_cutAll_6 c k17) (z := fun _ _ _ _ _ => none) (fun K k (v : Int64) => K (nI i) (nI k) (nI p) v N) e
    (fun k v => p ≤ k ∧ v = lN (nv t p (min (k - p) 4)))
    (Q := fun x => x = k17 (nI (i + 1)) (nI e) (tkM N i (so t n p) (va t n p))) ?_ ?_ (n := hN) (k := p) (by omega) (hN_big (by omega)) ⟨Nat.le_refl _, by rw [Nat.sub_self]; rfl⟩
  · rintro K v ⟨-, i2⟩
    have fin : B_Md_cutAll_8 c k17 (nI i) (nI e) (nI p) v N = k17 (nI (i + 1)) (nI e) (tkM N i (so t n p) (va t n p)) := by
      have es : nI e - nI p = nI (e - p) := nI_s (by omega)
      by_cases q : e - p ≤ 4
      · have g : nI (e - p) ≤ (4 : Int32) := (nI_lei (b := 4) (by omega) (by decide)).mpr q
        rw [if_pos q] at sE
        simp only [B_Md_cutAll_8, B_Md_cutAll_9, B_Md_cutAll_11, es, g, ↓reduceIte, x0, hg_T, c0, hl_e, i2, ← nI_succ, tkM, sE, vE]
        rfl
      · have g : ¬ nI (e - p) ≤ (4 : Int32) := fun z => q ((nI_lei (b := 4) (by omega) (by decide)).mp z)
        rw [if_neg q] at sE
        simp only [B_Md_cutAll_8, B_Md_cutAll_9, B_Md_cutAll_11, es, g, ↓reduceIte, x0, hg_T, c0, hl_e, i2, ← nI_succ, tkM, sE, vE]
        rfl
    by_cases q : e = n
    · have g : nI n ≤ nI e := (nI_lei (by omega) (by omega)).mpr (by omega)
      simp only [B_Md_cutAll_6, ht.1, g, ↓reduceIte]
      exact fin
    · have g : ¬ nI n ≤ nI e := fun z => by have := (nI_lei (by omega) (by omega)).mp z; omega
      have x1 : hn_ix 1000 (nI e) = true := ix_ok (by omega) (by decide)
      have c1 : (nI e).toNatClampNeg = e := nI_lt31 (by omega)
      have ne : cD (t e) = false := by
        have := rE_out (f := cD) (t := t) (n - p) p (by omega)
        rw [← eT] at this; exact this
      obtain ⟨t1, t2⟩ := ht.2.2 e (by omega)
      simp only [B_Md_cutAll_6, ht.1, g, ↓reduceIte, x1, hg_T, c1, t1, isD_m t2, ne, Bool.false_eq_true, hbN_e]
      exact fin
  · rintro K k v hk ⟨i1, i2⟩
    right
    have g : ¬ nI n ≤ nI k := fun z => by have := (nI_lei (by omega) (by omega)).mp z; omega
    have x1 : hn_ix 1000 (nI k) = true := ix_ok (by omega) (by decide)
    have c1 : (nI k).toNatClampNeg = k := nI_lt31 (by omega)
    have ne : cD (t k) = true := rE_in (f := cD) (t := t) (n - p) p k i1 (by rw [← eT]; exact hk)
    have hl' := ne
    simp only [cD, Bool.and_eq_true, decide_eq_true_eq] at hl'
    obtain ⟨t1, t2⟩ := ht.2.2 k (by omega)
    have z : ¬ (1 : Int32) = 0 := by decide
    have es : nI k - nI p = nI (k - p) := nI_s (by omega)
    by_cases q : 4 ≤ k - p
    · have g8 : (4 : Int32) ≤ nI (k - p) := (nI_lei (a := 4) (by decide) (by omega)).mpr q
      refine ⟨v, ⟨by omega, by rw [i2, show min (k + 1 - p) 4 = min (k - p) 4 by omega]⟩, ?_⟩
      simp only [B_Md_cutAll_6, B_Md_cutAll_7, ht.1, g, ↓reduceIte, x1, hg_T, c1, t1, isD_m t2, ne, hbN_e, z, es, g8, ← nI_succ]
    · have g8 : ¬ (4 : Int32) ≤ nI (k - p) := fun y => q ((nI_lei (a := 4) (by decide) (by omega)).mp y)
      refine ⟨(((10 : Int64) * v) + (nI (t k)).toInt64) - (48 : Int64), ⟨by omega, ?_⟩, ?_⟩
      · rw [i2, nI_64 (by omega), show (10 : Int64) = lN 10 from rfl, show (48 : Int64) = lN 48 from rfl, lN_m, lN_a, lN_s (by omega), show min (k + 1 - p) 4 = min (k - p) 4 + 1 by omega, nv, show p + min (k - p) 4 = k by omega]
        exact congrArg lN (by omega)
      · simp only [B_Md_cutAll_6, B_Md_cutAll_7, ht.1, g, ↓reduceIte, x1, hg_T, c1, t1, isD_m t2, ne, hbN_e, z, es, g8, ← nI_succ]
