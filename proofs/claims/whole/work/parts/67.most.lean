/-! BEST: the class's table of sets -/
def tb (m : Nat) : Nat → Bool := fun i => m.testBit i
theorem bt_nat {m i : Nat} (hi : i < 32) : bt (nI m) i = m.testBit i := by
  unfold bt nI
  simp [Int32.toBitVec_ofNat, BitVec.getLsbD_ofNat, hi]
  rw [← BitVec.getLsbD_eq_getElem, BitVec.getLsbD_ofNat]; simp [hi]
theorem nI_1sh : ∀ k, k < 31 → (1 : Int32) <<< (nI k &&& 31) = nI (2 ^ k) := by decide +kernel
theorem nI_max {a b : Nat} (ha : a < 2147483648) (hb : b < 2147483648) : hm_max (nI a) (nI b) = nI (max a b) := by
  unfold hm_max
  by_cases h : nI a < nI b
  · have := (nI_lti ha hb).mp h
    rw [if_pos h]; exact congrArg nI (by omega)
  · have : ¬ a < b := fun q => h ((nI_lti ha hb).mpr q)
    rw [if_neg h]; exact congrArg nI (by omega)
theorem pw12 {j : Nat} (hj : j ≤ 12) : 2 ^ j ≤ 4096 := by
  have : 2 ^ j ≤ 2 ^ 12 := Nat.pow_le_pow_right (by omega) hj
  omega
/-- one pane less -/
theorem mk_del {m n p : Nat} (hn' : n ≤ 12) (hm : m < 2 ^ n) (hp : p < 12) : ∃ m', m' < 2 ^ n ∧ nI m &&& (((1 : Int32) <<< (nI p &&& 31)) ^^^ (-1 : Int32)) = nI m' ∧ tb m' = del (tb m) p := by
  obtain ⟨m', h1, h2, h3⟩ := bitsF_nat (del (tb m) p) n (by omega)
  have hi : ∀ i, n ≤ i → m.testBit i = false := fun i hi => Nat.testBit_lt_two_pow (Nat.lt_of_lt_of_le hm (Nat.pow_le_pow_right (by omega) hi))
  refine ⟨m', h1, ?_, ?_⟩
  · rw [← h2]
    apply b_ext
    intro i hi'
    rw [b_and, bt_not hi', bt_1sh (by omega) hi', bt_bitsF (by omega) hi', bt_nat hi']
    unfold del tb
    by_cases q : i < n
    · simp [q]
    · rw [hi i (by omega)]; simp
  · funext i
    by_cases q : i < n
    · exact h3 i q
    · have e1 : tb m' i = false := Nat.testBit_lt_two_pow (Nat.lt_of_lt_of_le h1 (Nat.pow_le_pow_right (by omega) (by omega)))
      have e2 : tb m i = false := hi i (by omega)
      rw [e1]; unfold del; rw [e2]; simp
theorem tb_top {j m i : Nat} (hm : m < 2 ^ j) : tb (2 ^ j + m) i = (decide (i = j) || tb m i) := by
  unfold tb
  have e := Nat.two_pow_add_eq_or_of_lt hm 1
  rw [Nat.mul_one] at e
  rw [e, Nat.testBit_or, Nat.testBit_two_pow]
  congr 1
  by_cases q : i = j
  · simp [q]
  · have : ¬ j = i := fun e => q e.symm
    simp [q, this]
theorem tb_hi {j m i : Nat} (hm : m < 2 ^ j) (hi : j ≤ i) : tb m i = false := Nat.testBit_lt_two_pow (Nat.lt_of_lt_of_le hm (Nat.pow_le_pow_right (by omega) hi))
theorem Vf_up {G : Nat → Nat → Nat} {S : Nat → Bool} {j : Nat} : ∀ n, j ≤ n → (∀ k, j ≤ k → k < n → S k = false) → Vf G n S = Vf G j S
  | 0, h, _ => by have : j = 0 := by omega
                  subst this; rfl
  | n + 1, h, hs => by
    by_cases e : j = n + 1
    · subst e; rfl
    · rw [Vf_lo (hs n (by omega) (by omega))]
      exact Vf_up n (by omega) (fun k h1 h2 => hs k h1 (by omega))
def gB (G : Nat → Nat → Nat) : Prop := (∀ a b, G a b = G b a) ∧ (∀ a b, G a b ≤ 32415552) ∧ (∀ n S, n ≤ 12 → Vf G n S ≤ 388986624)
/-- the most with one pane more -/
theorem mostWith_ok {c : Nat} {G : Nat → Nat → Nat} (hB : gB G) {j m : Nat} (hj : j < 12) (hm : m < 2 ^ j) {N : hn} (h48 : ∀ p, p < j → N.1 48 (j * 12 + p) = nI (G j p)) (h49 : ∀ m', m' < 2 ^ j → N.1 49 m' = nI (Vf G 12 (tb m'))) :
    F_Trade_mostWith c (nI j) (nI m) N = some (nI (Vf G 12 (tb (2 ^ j + m))), N) := by
  have hpw := pw12 (show j ≤ 12 by omega)
  have x0 : hn_ix 4096 (nI m) = true := ix_ok (by omega) (by decide)
  have c0 : (nI m).toNatClampNeg = m := nI_lt31 (by omega)
  have lo : ∀ m', m' < 2 ^ j → Vf G 12 (tb m') = Vf G j (tb m') := fun m' h => Vf_up 12 (by omega) (fun k h1 _ => tb_hi h h1)
  have res : Vf G 12 (tb (2 ^ j + m)) = fmx (fun p => G j p + Vf G j (del (tb m) p)) (fun p => tb m p && decide (0 < G j p)) (Vf G j (tb m)) j := by
    have e1 : ∀ i, i < j → tb (2 ^ j + m) i = tb m i := fun i hi => by rw [tb_top hm]; simp; omega
    rw [Vf_up (j := j + 1) 12 (by omega) (fun k h1 _ => by rw [tb_top hm, tb_hi hm (by omega)]; simp; omega), Vf, if_pos (by rw [tb_top hm]; simp), Vf_cong e1]
    apply fmx_cong
    · intro k hk; rw [e1 k hk]
    · intro k hk _
      have : Vf G j (del (tb (2 ^ j + m)) k) = Vf G j (del (tb m) k) := Vf_cong (fun i hi => by unfold del; rw [e1 i hi])
      rw [this]
  rw [res]
  simp only [F_Trade_mostWith, x0, hg_T, c0, h49 m hm, lo m hm, hl_e]
  refine it_wp (B := B_Trade_mostWith_1 c) (z := fun _ _ _ _ _ => none) (fun K p (v : Int32) => K (nI j) (nI m) v (nI p) N) j
    (fun p v => v = nI (fmx (fun p => G j p + Vf G j (del (tb m) p)) (fun p => tb m p && decide (0 < G j p)) (Vf G j (tb m)) p))
    (Q := fun x => x = some (nI (fmx (fun p => G j p + Vf G j (del (tb m) p)) (fun p => tb m p && decide (0 < G j p)) (Vf G j (tb m)) j), N)) ?_ ?_ (n := hN) (k := 0) (by omega) (hN_big (by omega)) rfl
  · intro K v hv
    have g : nI j ≤ nI j := (nI_lei (by omega) (by omega)).mpr (Nat.le_refl _)
    simp only [B_Trade_mostWith_1, g, ↓reduceIte, hv]
  · intro K p v hp hv
    right
    have g : ¬ nI j ≤ nI p := fun q => by have := (nI_lei (by omega) (by omega)).mp q; omega
    have e1 : (nI j * (12 : Int32)) + nI p = nI (j * 12 + p) := by rw [show (12 : Int32) = nI 12 from rfl, nI_m, nI_a]
    have x1 : hn_ix 144 (nI (j * 12 + p)) = true := ix_ok (by omega) (by decide)
    have c1 : (nI (j * 12 + p)).toNatClampNeg = j * 12 + p := nI_lt31 (by omega)
    obtain ⟨m', d1, d2, d3⟩ := mk_del (show j ≤ 12 by omega) hm (show p < 12 by omega)
    have x2 : hn_ix 4096 (nI m') = true := ix_ok (by omega) (by decide)
    have c2 : (nI m').toNatClampNeg = m' := nI_lt31 (by omega)
    have bp : bt (nI m) p = tb m p := bt_nat (by omega)
    have vb : fmx (fun p => G j p + Vf G j (del (tb m) p)) (fun p => tb m p && decide (0 < G j p)) (Vf G j (tb m)) p ≤ 500000000 := by
      rcases fmx_or (f := fun p => G j p + Vf G j (del (tb m) p)) (S := fun p => tb m p && decide (0 < G j p)) (b := Vf G j (tb m)) p with q | ⟨k, -, -, q⟩
      · rw [q]; have := hB.2.2 j (tb m) (by omega); omega
      · rw [q]; have a := hB.2.1 j k; have b := hB.2.2 j (del (tb m) k) (by omega)
        show G j k + Vf G j (del (tb m) k) ≤ _
        omega
    have gp := hB.2.1 j p
    have vp := hB.2.2 j (tb m') (by omega)
    by_cases q : tb m p = true
    · by_cases q2 : 0 < G j p
      · have g2 : ¬ nI (G j p) ≤ 0 := fun z => by have := (nI_lei (b := 0) (by omega) (by decide)).mp z; omega
        refine ⟨hm_max v (nI (G j p) + nI (Vf G j (tb m'))), ?_, by simp only [B_Trade_mostWith_1, g, ↓reduceIte, e1, x1, hg_T, c1, hl_e, h48 p hp, bt_sh (show p < 32 by omega), bp, q, g2, d2, x2, c2, h49 m' d1, lo m' d1, ← nI_succ]⟩
        have q3 : (tb m p && decide (0 < G j p)) = true := by simp [q, q2]
        rw [hv, nI_a, nI_max (by omega) (by omega), fmx, if_pos q3, d3]
      · have g2 : nI (G j p) ≤ 0 := (nI_lei (b := 0) (by omega) (by decide)).mpr (by omega)
        refine ⟨v, ?_, by simp only [B_Trade_mostWith_1, g, ↓reduceIte, e1, x1, hg_T, c1, hl_e, h48 p hp, bt_sh (show p < 32 by omega), bp, q, g2, ← nI_succ]⟩
        have q3 : ¬ (tb m p && decide (0 < G j p)) = true := by simp [q2]
        rw [hv, fmx, if_neg q3]
    · refine ⟨v, ?_, by simp only [B_Trade_mostWith_1, g, ↓reduceIte, e1, x1, hg_T, c1, hl_e, bt_sh (show p < 32 by omega), bp, q, Bool.false_eq_true, ← nI_succ]⟩
      have q3 : ¬ (tb m p && decide (0 < G j p)) = true := by simp [q]
      rw [hv, fmx, if_neg q3]
/-- the first partner that reaches the most -/
theorem leastPartner_ok {c : Nat} {G : Nat → Nat → Nat} (hB : gB G) {P p m m1 : Nat} (hP : P ≤ 12) (hp : p < P) {L : Nat → Bool} (hL : L p = true) (hlo : ∀ k, L k = true → p ≤ k ∧ k < P) (hm1 : m1 < 2 ^ P) (e1 : tb m1 = del L p) {N : hn}
    (h48 : ∀ a b, a < P → b < P → N.1 48 (a * 12 + b) = nI (G a b)) (h49 : ∀ m', m' < 2 ^ P → N.1 49 m' = nI (Vf G 12 (tb m'))) :
    F_Trade_leastPartner c (nI p) (nI m1) (nI (Vf G 12 L)) (nI P) N = some (nI (ptG G L p P), N) := by
  have hpw := pw12 hP
  have x0 : hn_ix 4096 (nI m1) = true := ix_ok (by omega) (by decide)
  have c0 : (nI m1).toNatClampNeg = m1 := nI_lt31 (by omega)
  obtain ⟨a1, a2, a3, a4, -, a6⟩ := mxP_ok (G := G) (L := L) (p := p) (P - 1 - p)
  have av := mxP_V hB.1 hp hP hL hlo
  rw [av] at a4 a6
  change vdG G L p (ptG G L p P) = true at a1
  change p ≤ ptG G L p P at a2
  change ptG G L p P ≤ _ at a3
  change opG G L p (ptG G L p P) = _ at a4
  change ∀ e, p ≤ e → e < ptG G L p P → _ at a6
  generalize ptG G L p P = t at a1 a2 a3 a4 a6
  have vL := hB.2.2 12 L (by omega)
  have v1 := hB.2.2 12 (del L p) (by omega)
  by_cases ht : t = p
  · subst ht
    rw [opG, if_pos rfl] at a4
    have g : nI (Vf G 12 (del L t)) = nI (Vf G 12 L) := by rw [a4]
    simp only [F_Trade_leastPartner, x0, hg_T, c0, h49 m1 hm1, e1, g, ↓reduceIte]
  · have a0 := a6 p (Nat.le_refl _) (by omega) (by simp [vdG])
    rw [opG, if_pos rfl] at a0
    have g : ¬ nI (Vf G 12 (del L p)) = nI (Vf G 12 L) := fun q => by have := (nI_eqi (by omega) (by omega)).mp q; omega
    have e0 : nI p + (1 : Int32) = nI (p + 1) := (nI_succ p).symm
    simp only [F_Trade_leastPartner, x0, hg_T, c0, h49 m1 hm1, e1, g, ↓reduceIte, hl_e, e0]
    refine it_wp (B := B_Trade_leastPartner_1 c) (z := fun _ _ _ _ _ _ => none) (fun K e (_ : Unit) => K (nI p) (nI m1) (nI (Vf G 12 L)) (nI P) (nI e) N) t
      (fun e _ => p + 1 ≤ e ∧ e ≤ t) (Q := fun x => x = some (nI t, N)) ?_ ?_ (n := hN) (k := p + 1) (s := ()) (by omega) (hN_big (by omega)) ⟨Nat.le_refl _, by omega⟩
    · rintro K _ ⟨-, -⟩
      have g0 : ¬ nI P ≤ nI t := fun q => by have := (nI_lei (by omega) (by omega)).mp q; omega
      have e2 : (nI p * (12 : Int32)) + nI t = nI (p * 12 + t) := by rw [show (12 : Int32) = nI 12 from rfl, nI_m, nI_a]
      have x1 : hn_ix 144 (nI (p * 12 + t)) = true := ix_ok (by omega) (by decide)
      have c1 : (nI (p * 12 + t)).toNatClampNeg = p * 12 + t := nI_lt31 (by omega)
      obtain ⟨m', d1, d2, d3⟩ := mk_del hP hm1 (show t < 12 by omega)
      have x2 : hn_ix 4096 (nI m') = true := ix_ok (by omega) (by decide)
      have c2 : (nI m').toNatClampNeg = m' := nI_lt31 (by omega)
      have bp : bt (nI m1) t = del L p t := by rw [bt_nat (by omega), ← e1]; rfl
      unfold vdG at a1
      simp only [ht, decide_false, Bool.false_or, Bool.and_eq_true, decide_eq_true_eq] at a1
      rw [opG, if_neg ht] at a4
      have gp := hB.2.1 p t
      have g2 : ¬ nI (G p t) ≤ 0 := fun z => by have := (nI_lei (b := 0) (by omega) (by decide)).mp z; omega
      have g3 : nI (G p t) + nI (Vf G 12 (del (del L p) t)) = nI (Vf G 12 L) := by rw [nI_a, a4]
      simp only [B_Trade_leastPartner_1, g0, ↓reduceIte, e2, x1, hg_T, c1, hl_e, h48 p t hp (show t < P by omega), bt_sh (show t < 32 by omega), bp, a1.1, g2, d2, x2, c2, h49 m' d1, d3, e1, g3]
    · rintro K e _ he ⟨i1, i2⟩
      right
      refine ⟨(), ⟨by omega, by omega⟩, ?_⟩
      have g0 : ¬ nI P ≤ nI e := fun q => by have := (nI_lei (by omega) (by omega)).mp q; omega
      have e2 : (nI p * (12 : Int32)) + nI e = nI (p * 12 + e) := by rw [show (12 : Int32) = nI 12 from rfl, nI_m, nI_a]
      have x1 : hn_ix 144 (nI (p * 12 + e)) = true := ix_ok (by omega) (by decide)
      have c1 : (nI (p * 12 + e)).toNatClampNeg = p * 12 + e := nI_lt31 (by omega)
      obtain ⟨m', d1, d2, d3⟩ := mk_del hP hm1 (show e < 12 by omega)
      have x2 : hn_ix 4096 (nI m') = true := ix_ok (by omega) (by decide)
      have c2 : (nI m').toNatClampNeg = m' := nI_lt31 (by omega)
      have bp : bt (nI m1) e = del L p e := by rw [bt_nat (by omega), ← e1]; rfl
      have gp := hB.2.1 p e
      have hep : ¬ e = p := by omega
      by_cases q : del L p e = true
      · by_cases q2 : 0 < G p e
        · have g2 : ¬ nI (G p e) ≤ 0 := fun z => by have := (nI_lei (b := 0) (by omega) (by decide)).mp z; omega
          have lt := a6 e (by omega) (by omega) (by unfold vdG; simp [q, q2])
          rw [opG, if_neg hep] at lt
          have g3 : ¬ nI (G p e) + nI (Vf G 12 (del (del L p) e)) = nI (Vf G 12 L) := fun z => by
            rw [nI_a] at z
            have := (nI_eqi (by omega) (by omega)).mp z; omega
          simp only [B_Trade_leastPartner_1, g0, ↓reduceIte, e2, x1, hg_T, c1, hl_e, h48 p e hp (show e < P by omega), bt_sh (show e < 32 by omega), bp, q, g2, d2, x2, c2, h49 m' d1, d3, e1, g3, ← nI_succ]
        · have g2 : nI (G p e) ≤ 0 := (nI_lei (b := 0) (by omega) (by decide)).mpr (by omega)
          simp only [B_Trade_leastPartner_1, g0, ↓reduceIte, e2, x1, hg_T, c1, hl_e, h48 p e hp (show e < P by omega), bt_sh (show e < 32 by omega), bp, q, g2, ← nI_succ]
      · simp only [B_Trade_leastPartner_1, g0, ↓reduceIte, e2, x1, hg_T, c1, hl_e, bt_sh (show e < 32 by omega), bp, q, Bool.false_eq_true, ← nI_succ]
