/-! CHAPEL: the class's next token -/
theorem sign_t : ∀ m, m < 128 → (hm_ix 1 ((nI m).toUInt32 % 65536).toInt32 < 0 ↔ cS m = false) := by decide +kernel
theorem next_2 {c n p : Nat} {t : Nat → Nat} {N : hn} (ht : tapP t n N) (hp : p ≤ n) (h32 : N.1 3 2 = nI p) : ∃ N', B_Tape_next_2 c N = some N' ∧ off3 N N' ∧ atP t n p N' := by
  have hn' := ht.2.1
  have o1 : off3 N (hn_wI N 3 3 (nI p)) := off3.w (by decide)
  have t1 := ht.off o1
  have a2 : (hn_wI N 3 3 (nI p)).1 3 2 = nI p := by rw [wI_n (by decide)]; exact h32
  have a3 : (hn_wI N 3 3 (nI p)).1 3 3 = nI p := wI_s
  by_cases q : p < n
  · have g : nI p < nI n := (nI_lti (by omega) (by omega)).mpr q
    have x1 : hn_ix 1000 (nI p) = true := ix_ok (by omega) (by decide)
    have c1 : (nI p).toNatClampNeg = p := nI_lt31 (by omega)
    obtain ⟨u1, u2⟩ := t1.2.2 p q
    have z : ¬ (1 : Int32) = 0 := by decide
    by_cases qL : cL (t p) = true
    · obtain ⟨N', d1, d2, d3⟩ := nextWord_ok (c := c) t1 q qL a2 a3
      refine ⟨N', ?_, o1.trans d2, d3⟩
      simp only [B_Tape_next_2, h32, hl_e, a2, t1.1, g, ↓reduceIte, x1, hg_T, c1, u1, isL_t u2, qL, hbN_e, z]
      exact d1
    · have qL' : cL (t p) = false := by simpa using qL
      by_cases qD : cD (t p) = true
      · obtain ⟨N', d1, d2, d3⟩ := nextNumber_ok (c := c) t1 q qL' qD a2 a3
        refine ⟨N', ?_, o1.trans d2, d3⟩
        simp only [B_Tape_next_2, h32, hl_e, a2, t1.1, g, ↓reduceIte, x1, hg_T, c1, u1, isL_t u2, isD_t u2, qL', qD, Bool.false_eq_true, hbN_e, z]
        exact d1
      · have qD' : cD (t p) = false := by simpa using qD
        have eT : tE t n p = p + 1 := by unfold tE; rw [if_neg qL, if_neg qD]
        have kE : kd t n p = if cS (t p) then t p else 0 := by unfold kd; rw [if_neg (by omega), if_neg qL, if_neg qD]
        have kb : kd t n p ≠ 2 ∧ kd t n p < 128 := by
          rw [kE]
          by_cases qS : cS (t p) = true
          · rw [if_pos qS]
            simp only [cS, Bool.or_eq_true, decide_eq_true_eq] at qS
            omega
          · rw [if_neg qS]; omega
        have at' : ∀ v : Int32, v = nI (kd t n p) → atP t n p (hn_wI (hn_wI (hn_wI N 3 3 (nI p)) 3 4 v) 3 2 (nI (p + 1))) := by
          intro v hv
          refine ⟨?_, ?_, ?_, ?_, ?_⟩
          · rw [wI_n (by decide), wI_n (by decide), wI_s]
          · rw [wI_n (by decide), wI_s, hv]
          · intro y; exact absurd y kb.1
          · intro y; omega
          · intro _; rw [wI_s, eT]
        have w2 : ∀ v : Int32, (hn_wI (hn_wI N 3 3 (nI p)) 3 4 v).1 3 2 = nI p := fun v => by rw [wI_n (by decide)]; exact a2
        by_cases qS : cS (t p) = true
        · have gS : ¬ hm_ix 1 ((nI (t p)).toUInt32 % 65536).toInt32 < 0 := fun y => by rw [(sign_t (t p) u2).mp y] at qS; exact absurd qS (by decide)
          rw [if_pos qS] at kE
          refine ⟨hn_wI (hn_wI (hn_wI N 3 3 (nI p)) 3 4 (nI (t p))) 3 2 (nI (p + 1)), ?_, (o1.trans (off3.w (by decide))).trans (off3.w (by decide)), at' _ (by rw [kE])⟩
          simp only [B_Tape_next_2, B_Tape_next_5, h32, hl_e, a2, t1.1, g, ↓reduceIte, x1, hg_T, c1, u1, isL_t u2, isD_t u2, qL', qD', Bool.false_eq_true, hbN_e, gS, w2, ← nI_succ]
        · have qS' : cS (t p) = false := by simpa using qS
          have gS : hm_ix 1 ((nI (t p)).toUInt32 % 65536).toInt32 < 0 := (sign_t (t p) u2).mpr qS'
          rw [if_neg qS] at kE
          refine ⟨hn_wI (hn_wI (hn_wI N 3 3 (nI p)) 3 4 (0 : Int32)) 3 2 (nI (p + 1)), ?_, (o1.trans (off3.w (by decide))).trans (off3.w (by decide)), at' _ (by rw [kE]; rfl)⟩
          simp only [B_Tape_next_2, B_Tape_next_5, h32, hl_e, a2, t1.1, g, ↓reduceIte, x1, hg_T, c1, u1, isL_t u2, isD_t u2, qL', qD', Bool.false_eq_true, hbN_e, gS, w2, ← nI_succ]
  · have g : ¬ nI p < nI n := fun z => by have := (nI_lti (by omega) (by omega)).mp z; omega
    have kE : kd t n p = 1 := by unfold kd; rw [if_pos (by omega)]
    refine ⟨hn_wI (hn_wI N 3 3 (nI p)) 3 4 (1 : Int32), ?_, o1.trans (off3.w (by decide)), ?_, ?_, ?_, ?_, ?_⟩
    · simp only [B_Tape_next_2, h32, hl_e, a2, t1.1, g, ↓reduceIte]
    · rw [wI_n (by decide)]; exact a3
    · rw [wI_s, kE]; rfl
    · intro y; rw [kE] at y; omega
    · intro y; rw [kE] at y; omega
    · intro y; omega
theorem tnext_ok {c n q : Nat} {t : Nat → Nat} {N : hn} (ht : tapP t n N) (hq : q ≤ n) (h32 : N.1 3 2 = nI q) : ∃ N', F_Tape_next c N = some N' ∧ off3 N N' ∧ atP t n (skp t n q) N' := by
  have hn' := ht.2.1
  obtain ⟨b1, b2⟩ := skp_b (t := t) hq
  obtain ⟨e, he⟩ : ∃ e, e = skp t n q := ⟨_, rfl⟩
  rw [← he] at b1 b2 ⊢
  refine it_wp (B := B_Tape_next_1 c) (z := fun _ => none) (fun K _ (s : hn) => K s) e
    (fun k s => off3 N s ∧ s.1 3 2 = nI k ∧ q ≤ k)
    (Q := fun x => ∃ N', x = some N' ∧ off3 N N' ∧ atP t n e N') ?_ ?_ (n := hN) (k := q) (s := N) b1 (hN_big (by omega)) ⟨off3.refl, h32, Nat.le_refl _⟩
  · rintro K s ⟨i1, i2, -⟩
    have hs := ht.off i1
    obtain ⟨N', d1, d2, d3⟩ := next_2 (c := c) hs b2 i2
    refine ⟨N', ?_, i1.trans d2, d3⟩
    by_cases y : e = n
    · have g : nI n ≤ nI e := (nI_lei (by omega) (by omega)).mpr (by omega)
      simp only [B_Tape_next_1, hs.1, i2, g, ↓reduceIte, d1]
    · have g : ¬ nI n ≤ nI e := fun z => by have := (nI_lei (by omega) (by omega)).mp z; omega
      have x1 : hn_ix 1000 (nI e) = true := ix_ok (by omega) (by decide)
      have c1 : (nI e).toNatClampNeg = e := nI_lt31 (by omega)
      have ne : cB (t e) = false := by
        have := rE_out (f := cB) (t := t) (n - q) q (by unfold skp at he; omega)
        unfold skp at he
        rw [← he] at this; exact this
      obtain ⟨t1, t2⟩ := hs.2.2 e (by omega)
      simp only [B_Tape_next_1, hs.1, i2, g, ↓reduceIte, x1, hg_T, c1, t1, isB_t t2, ne, Bool.false_eq_true, hbN_e, d1]
  · rintro K k s hk ⟨i1, i2, i3⟩
    right
    have hs := ht.off i1
    have g : ¬ nI n ≤ nI k := fun z => by have := (nI_lei (by omega) (by omega)).mp z; omega
    have x1 : hn_ix 1000 (nI k) = true := ix_ok (by omega) (by decide)
    have c1 : (nI k).toNatClampNeg = k := nI_lt31 (by omega)
    have ne : cB (t k) = true := rE_in (f := cB) (t := t) (n - q) q k i3 (by unfold skp at he; omega)
    obtain ⟨t1, t2⟩ := hs.2.2 k (by omega)
    have z : ¬ (1 : Int32) = 0 := by decide
    refine ⟨hn_wI s 3 2 (nI (k + 1)), ⟨i1.trans (off3.w (by decide)), wI_s, by omega⟩, ?_⟩
    simp only [B_Tape_next_1, hs.1, i2, g, ↓reduceIte, x1, hg_T, c1, t1, isB_t t2, ne, hbN_e, z, hl_e, ← nI_succ]
/-- the tokens' places -/
def sT (t : Nat → Nat) (n : Nat) : Nat → Nat
  | 0 => skp t n 0
  | i + 1 => if sT t n i < n then skp t n (tE t n (sT t n i)) else n
theorem sT_b {t : Nat → Nat} {n : Nat} : ∀ i, sT t n i ≤ n
  | 0 => (skp_b (Nat.zero_le _)).2
  | i + 1 => by
    rw [sT]
    by_cases q : sT t n i < n
    · rw [if_pos q]; exact (skp_b (tE_b q).2).2
    · rw [if_neg q]; exact Nat.le_refl _
theorem sT_lt {t : Nat → Nat} {n i : Nat} (h : sT t n i < n) : sT t n i < sT t n (i + 1) := by
  rw [sT, if_pos h]
  have a := tE_b (t := t) h
  have b := skp_b (t := t) a.2
  omega
theorem sT_ge {t : Nat → Nat} {n : Nat} : ∀ i, i ≤ sT t n i ∨ sT t n i = n
  | 0 => Or.inl (Nat.zero_le _)
  | i + 1 => by
    rcases Nat.lt_or_ge (sT t n i) n with q | q
    · have a := sT_lt q
      rcases sT_ge (t := t) (n := n) i with h | h
      · left; omega
      · omega
    · right; rw [sT, if_neg (by omega)]
/-- the class at the i-th token -/
def atK (t : Nat → Nat) (n i : Nat) (N : hn) : Prop := tapP t n N ∧ atP t n (sT t n i) N
theorem next_K {c n i : Nat} {t : Nat → Nat} {N : hn} (h : atK t n i N) (hi : sT t n i < n) : ∃ N', F_Tape_next c N = some N' ∧ off3 N N' ∧ atK t n (i + 1) N' := by
  obtain ⟨N', d1, d2, d3⟩ := tnext_ok (c := c) h.1 (tE_b hi).2 (h.2.2.2.2.2 hi)
  refine ⟨N', d1, d2, h.1.off d2, ?_⟩
  rw [sT, if_pos hi]; exact d3
theorem rewind_K {c n : Nat} {t : Nat → Nat} {N : hn} (h : tapP t n N) : ∃ N', F_Tape_rewind c N = some N' ∧ off3 N N' ∧ atK t n 0 N' := by
  have o1 : off3 N (hn_wI N 3 2 (0 : Int32)) := off3.w (by decide)
  obtain ⟨N', d1, d2, d3⟩ := tnext_ok (c := c) (q := 0) (h.off o1) (Nat.zero_le _) wI_s
  refine ⟨N', ?_, o1.trans d2, h.off (o1.trans d2), d3⟩
  simp only [F_Tape_rewind, hl_e, d1, hvN_e]
