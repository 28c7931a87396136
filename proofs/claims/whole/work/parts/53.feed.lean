/-! what changes: feed -/
theorem L_ushr {v : Int64} {n : Nat} (hk : n < 64) : ((v.toUInt64 >>> ((nI n).toInt64.toUInt64 &&& Int64.toUInt64 63)).toInt64).toBitVec = v.toBitVec >>> n := by
  rw [wb_cu n hk]
  apply BitVec.eq_of_toNat_eq
  show (v.toUInt64 >>> UInt64.ofNat n).toNat = _
  rw [UInt64.toNat_shiftRight, u_tn (by omega), Nat.mod_eq_of_lt hk, BitVec.toNat_ushiftRight]
  rfl
theorem L_sshr {v : Int64} {n : Nat} (hk : n < 64) : (v >>> ((nI n).toInt64 &&& 63)).toBitVec = v.toBitVec.sshiftRight n := by
  rw [wb_c n hk, Int64.toBitVec_shiftRight]
  show v.toBitVec.sshiftRight ((lN n).toBitVec.smod 64).toNat = _
  rw [wb_tb, wb_sm n hk, BitVec.toNat_ofNat, Nat.mod_eq_of_lt (by omega)]
theorem bt_32 {x : Int64} {i : Nat} (hi : i < 32) : bt x.toInt32 i = x.toBitVec.getLsbD i := by
  unfold bt
  rw [Int64.toBitVec_toInt32, BitVec.getLsbD_signExtend]
  simp [hi]; omega
/-- the k-th sign fed, from the highest on -/
def byN (v : Int64) (s : Nat) : Int32 := ((v >>> ((nI s).toInt64 &&& 63)).toInt32 &&& (255 : Int32))
theorem by_same {v : Int64} {s : Nat} (hs : s ≤ 56) : (((v.toUInt64 >>> ((nI s).toInt64.toUInt64 &&& Int64.toUInt64 63)).toInt64).toInt32 &&& (255 : Int32)) = byN v s := by
  apply b_ext
  intro i hi
  unfold byN
  rw [b_and, b_and, b_255, bt_32 hi, bt_32 hi, L_ushr (by omega), L_sshr (by omega), BitVec.getLsbD_ushiftRight, BitVec.getLsbD_sshiftRight]
  by_cases h : i < 8
  · have h1 : s + i < 64 := by omega
    have h2 : ¬ 64 ≤ i := by omega
    simp [h, h1, h2]
  · simp [h]
theorem by_nat (v : Int64) (s : Nat) : ∃ m, m < 256 ∧ byN v s = nI m := by
  have h : 0 ≤ byN v s := by
    unfold byN
    rw [fa_le]
    have e : ((v >>> ((nI s).toInt64 &&& 63)).toInt32 &&& (255 : Int32)) = bitsF (fun i => bt ((v >>> ((nI s).toInt64 &&& 63)).toInt32) i) 8 := by
      apply b_ext
      intro i hi
      rw [b_and, b_255, bt_bitsF (by decide) hi, Bool.and_comm]
    obtain ⟨m, m1, m2, -⟩ := bitsF_nat (fun i => bt ((v >>> ((nI s).toInt64 &&& 63)).toInt32) i) 8 (by decide)
    rw [e, m2, nI_toInt (by omega)]
    have : (0 : Int32).toInt = 0 := by decide
    omega
  have e : byN v s = bitsF (fun i => bt ((v >>> ((nI s).toInt64 &&& 63)).toInt32) i) 8 := by
    apply b_ext
    intro i hi
    unfold byN
    rw [b_and, b_255, bt_bitsF (by decide) hi, Bool.and_comm]
  obtain ⟨m, m1, m2, -⟩ := bitsF_nat (fun i => bt ((v >>> ((nI s).toInt64 &&& 63)).toInt32) i) 8 (by decide)
  exact ⟨m, by omega, by rw [e, m2]⟩
def fedB (m : Nat) : Prop := m = 10 ∨ (32 ≤ m ∧ m ≤ 126)
/-- a tape of n signs -/
def tpP (N : hn) (n : Nat) (T : Nat → Nat) : Prop := N.1 3 1 = nI n ∧ ∀ i, i < n → N.1 4 i = nI (T i)
def tpM (N : hn) (n : Nat) (T : Nat → Nat) : Prop := N.1 76 2 = nI n ∧ ∀ i, i < n → N.1 77 i = nI (T i)
theorem sh_8 : ∀ k, k < 8 → (56 - 8 * nI k) + (-8 : Int32) = 56 - 8 * nI (k + 1) ∧ ¬ (56 - 8 * nI k) < (0 : Int32) ∧ 56 - 8 * nI k = nI (56 - 8 * k) := by decide
theorem nar_by : ∀ m, m < 128 → vp_nar .byte (nI m).toInt8.toInt32 = nI m := by decide +kernel
theorem isFed_y {c m : Nat} (h : fedB m) {N : hn} : F_Tape_isFed c (nI m) N = some (1, N) := by
  rcases h with rfl | ⟨h1, h2⟩
  · rfl
  · by_cases e : nI m = (10 : Int32)
    · simp only [F_Tape_isFed, e, ↓reduceIte]
    · have g1 : ¬ nI m < (32 : Int32) := nI_nlt (b := 32) h1 (by omega)
      have g2 : ¬ (126 : Int32) < nI m := nI_nlt (a := 126) h2 (by decide)
      simp only [F_Tape_isFed, e, g1, g2, ↓reduceIte]
theorem isFed_n {c m : Nat} (hm : m < 256) (h : ¬ fedB m) {N : hn} : F_Tape_isFed c (nI m) N = some (0, N) := by
  unfold fedB at h
  have e : ¬ nI m = (10 : Int32) := fun q => h (Or.inl ((nI_eqi (b := 10) (by omega) (by decide)).mp q))
  by_cases g1 : m < 32
  · have g : nI m < (32 : Int32) := nI_lt (b := 32) g1 (by decide)
    simp only [F_Tape_isFed, e, g, ↓reduceIte]
  · have g : ¬ nI m < (32 : Int32) := nI_nlt (b := 32) (by omega) (by omega)
    have g2 : (126 : Int32) < nI m := nI_lt (a := 126) (by omega) (by omega)
    simp only [F_Tape_isFed, e, g, g2, ↓reduceIte]
/-- both tapes take the same signs -/
theorem add_both {c c' : Nat} (v : Int64) {n : Nat} {T : Nat → Nat} (hn0 : n ≤ 1000) (hT : ∀ i, i < n → fedB (T i)) : ∃ n' T', n' ≤ 1000 ∧ (∀ i, i < n' → fedB (T' i)) ∧
    (∀ N, tpP N n T → ∃ N', F_Tape_add c v N = some N' ∧ tpP N' n' T' ∧ (∀ b, b ≠ 3 → b ≠ 4 → N'.1 b = N.1 b) ∧ N'.2 = N.2) ∧
    (∀ N, tpM N n T → ∃ N', F_Md_lay c' v N = some N' ∧ tpM N' n' T' ∧ (∀ b, b ≠ 76 → b ≠ 77 → N'.1 b = N.1 b) ∧ N'.2 = N.2 ∧ ∀ k, k ≠ 2 → N'.1 76 k = N.1 76 k) := by
  -- the tape after k signs
  have ex : ∃ f : Nat → Nat × (Nat → Nat), f 0 = (n, T) ∧ (∀ k, k < 8 → ∃ m, m < 256 ∧ byN v (56 - 8 * k) = nI m ∧ ((fedB m ∧ (f k).1 < 1000 ∧ f (k + 1) = ((f k).1 + 1, fun i => if i = (f k).1 then m else (f k).2 i)) ∨ (¬ (fedB m ∧ (f k).1 < 1000) ∧ f (k + 1) = f k))) := by
    have st : ∀ (k : Nat) (s : Nat × (Nat → Nat)), ∃ s' : Nat × (Nat → Nat), ∃ m, m < 256 ∧ byN v (56 - 8 * k) = nI m ∧ ((fedB m ∧ s.1 < 1000 ∧ s' = (s.1 + 1, fun i => if i = s.1 then m else s.2 i)) ∨ (¬ (fedB m ∧ s.1 < 1000) ∧ s' = s)) := by
      intro k s
      obtain ⟨m, m1, m2⟩ := by_nat v (56 - 8 * k)
      by_cases q : fedB m ∧ s.1 < 1000
      · exact ⟨_, m, m1, m2, Or.inl ⟨q.1, q.2, rfl⟩⟩
      · exact ⟨s, m, m1, m2, Or.inr ⟨q, rfl⟩⟩
    exact ⟨fun k => Nat.rec (n, T) (fun k s => Classical.choose (st k s)) k, rfl, fun k _ => Classical.choose_spec (st k _)⟩
  obtain ⟨f, f0, fs⟩ := ex
  have hok : ∀ k, k ≤ 8 → (f k).1 ≤ 1000 ∧ ∀ i, i < (f k).1 → fedB ((f k).2 i) := by
    intro k
    induction k with
    | zero => intro _; rw [f0]; exact ⟨hn0, hT⟩
    | succ k ih =>
      intro hk
      obtain ⟨i1, i2⟩ := ih (by omega)
      obtain ⟨m, -, -, ⟨q1, q2, q3⟩ | ⟨-, q⟩⟩ := fs k (by omega)
      · rw [q3]
        refine ⟨by show (f k).1 + 1 ≤ 1000; omega, ?_⟩
        intro i hi
        show fedB (if i = (f k).1 then m else (f k).2 i)
        by_cases e : i = (f k).1
        · rw [if_pos e]; exact q1
        · rw [if_neg e]; exact i2 i (by have : i < (f k).1 + 1 := hi; omega)
      · rw [q]; exact ⟨i1, i2⟩
  refine ⟨(f 8).1, (f 8).2, (hok 8 (by omega)).1, (hok 8 (by omega)).2, ?_, ?_⟩
  · intro N hN'
    refine it_wp (B := B_Tape_add_1 c) (z := fun _ _ _ => none) (fun K k (s : hn) => K v (56 - 8 * nI k) s) 8
      (fun k s => tpP s (f k).1 (f k).2 ∧ (∀ b, b ≠ 3 → b ≠ 4 → s.1 b = N.1 b) ∧ s.2 = N.2)
      (Q := fun x => ∃ N', x = some N' ∧ tpP N' (f 8).1 (f 8).2 ∧ (∀ b, b ≠ 3 → b ≠ 4 → N'.1 b = N.1 b) ∧ N'.2 = N.2) ?_ ?_ (n := hN) (k := 0) (s := N) (by omega) (hN_big (by omega)) ⟨by rw [f0]; exact hN', fun _ _ _ => rfl, rfl⟩
    · rintro K s ⟨i1, i2, i3⟩
      refine ⟨s, ?_, i1, i2, i3⟩
      have g : (56 - 8 * nI 8) < (0 : Int32) := by decide
      simp only [B_Tape_add_1, g, ↓reduceIte]
    · rintro K k s hk ⟨⟨i1, i2⟩, i3, i4⟩
      right
      obtain ⟨e1, e2, e3⟩ := sh_8 k hk
      have e1' : nI (56 - 8 * k) + (-8 : Int32) = 56 - 8 * nI (k + 1) := by rw [← e3]; exact e1
      have e2' : ¬ nI (56 - 8 * k) < 0 := by rw [← e3]; exact e2
      obtain ⟨o1, o2⟩ := hok k (by omega)
      obtain ⟨m, m1, m2, ⟨q1, q2, q3⟩ | ⟨q1, q2⟩⟩ := fs k hk
      · have g : ¬ (1000 : Int32) ≤ nI (f k).1 := nI_ge (b := 1000) q2 (by decide)
        have x1 : hn_ix 1000 (nI (f k).1) = true := ix_ok q2 (by decide)
        have c1 : (nI (f k).1).toNatClampNeg = (f k).1 := nI_lt31 (by omega)
        have m128 : m < 128 := by unfold fedB at q1; omega
        have z : ¬ (1 : Int32) = 0 := by decide
        have k31 : (hn_wI s 4 (f k).1 (nI m)).1 3 1 = nI (f k).1 := by rw [wI_o (by decide)]; exact i1
        refine ⟨hn_wI (hn_wI s 4 (f k).1 (nI m)) 3 1 (nI ((f k).1 + 1)), ⟨⟨?_, ?_⟩, ?_, i4⟩, ?_⟩
        · rw [wI_s, q3]
        · rw [q3]
          intro i hi
          show (hn_wI (hn_wI s 4 (f k).1 (nI m)) 3 1 (nI ((f k).1 + 1))).1 4 i = nI (if i = (f k).1 then m else (f k).2 i)
          rw [wI_o (by decide)]
          by_cases e : i = (f k).1
          · rw [if_pos e, e, wI_s]
          · rw [if_neg e, wI_n e]; exact i2 i (by have : i < (f k).1 + 1 := hi; omega)
        · intro b b1 b2; rw [wI_o b1, wI_o b2, i3 b b1 b2]
        · simp only [e3, B_Tape_add_1, e2', ↓reduceIte, by_same (show 56 - 8 * k ≤ 56 by omega), m2, hl_e, isFed_y q1, hbN_e, z, i1, g, x1, hg_T, c1, nar_by m m128, k31, e1', ← nI_succ]
      · refine ⟨s, ⟨by rw [q2]; exact ⟨i1, i2⟩, i3, i4⟩, ?_⟩
        by_cases q : fedB m
        · have g : (1000 : Int32) ≤ nI (f k).1 := nI_le (a := 1000) (by have : ¬ (f k).1 < 1000 := fun e => q1 ⟨q, e⟩; omega) (by omega)
          have z : ¬ (1 : Int32) = 0 := by decide
          simp only [e3, B_Tape_add_1, e2', ↓reduceIte, by_same (show 56 - 8 * k ≤ 56 by omega), m2, hl_e, isFed_y q, hbN_e, z, i1, g, e1']
        · simp only [e3, B_Tape_add_1, e2', ↓reduceIte, by_same (show 56 - 8 * k ≤ 56 by omega), m2, hl_e, isFed_n m1 q, hbN_e, e1']
  · intro N hN'
    refine it_wp (B := B_Md_lay_1 c') (z := fun _ _ _ => none) (fun K k (s : hn) => K v (56 - 8 * nI k) s) 8
      (fun k s => tpM s (f k).1 (f k).2 ∧ (∀ b, b ≠ 76 → b ≠ 77 → s.1 b = N.1 b) ∧ s.2 = N.2 ∧ ∀ k, k ≠ 2 → s.1 76 k = N.1 76 k)
      (Q := fun x => ∃ N', x = some N' ∧ tpM N' (f 8).1 (f 8).2 ∧ (∀ b, b ≠ 76 → b ≠ 77 → N'.1 b = N.1 b) ∧ N'.2 = N.2 ∧ ∀ k, k ≠ 2 → N'.1 76 k = N.1 76 k) ?_ ?_ (n := hN) (k := 0) (s := N) (by omega) (hN_big (by omega)) ⟨by rw [f0]; exact hN', fun _ _ _ => rfl, rfl, fun _ _ => rfl⟩
    · rintro K s ⟨i1, i2, i3, i4⟩
      refine ⟨s, ?_, i1, i2, i3, i4⟩
      have g : (56 - 8 * nI 8) < (0 : Int32) := by decide
      simp only [B_Md_lay_1, g, ↓reduceIte]
    · rintro K k s hk ⟨⟨i1, i2⟩, i3, i4, i5⟩
      right
      obtain ⟨e1, e2, e3⟩ := sh_8 k hk
      have e1' : nI (56 - 8 * k) + (-8 : Int32) = 56 - 8 * nI (k + 1) := by rw [← e3]; exact e1
      have e2' : ¬ nI (56 - 8 * k) < 0 := by rw [← e3]; exact e2
      obtain ⟨o1, o2⟩ := hok k (by omega)
      obtain ⟨m, m1, m2, qq⟩ := fs k hk
      have lead : fedB m → B_Md_lay_1 c' K v (nI (56 - 8 * k)) s = B_Md_lay_2 c' K v (nI (56 - 8 * k)) (nI m) s := by
        intro q
        have m2' : ((v >>> ((nI (56 - 8 * k)).toInt64 &&& 63)).toInt32 &&& (255 : Int32)) = nI m := m2
        rcases q with rfl | ⟨h1, h2⟩
        · simp only [B_Md_lay_1, e2', ↓reduceIte, m2', hl_e, show nI 10 = (10 : Int32) from rfl]
        · by_cases e : nI m = (10 : Int32)
          · simp only [B_Md_lay_1, e2', ↓reduceIte, m2', hl_e, e]
          · have g1 : ¬ nI m < (32 : Int32) := nI_nlt (b := 32) h1 (by omega)
            have g2 : ¬ (126 : Int32) < nI m := nI_nlt (a := 126) h2 (by decide)
            simp only [B_Md_lay_1, e2', ↓reduceIte, m2', hl_e, e, g1, g2]
      have leadn : ¬ fedB m → B_Md_lay_1 c' K v (nI (56 - 8 * k)) s = K v (56 - 8 * nI (k + 1)) s := by
        intro q
        have m2' : ((v >>> ((nI (56 - 8 * k)).toInt64 &&& 63)).toInt32 &&& (255 : Int32)) = nI m := m2
        unfold fedB at q
        have e : ¬ nI m = (10 : Int32) := fun q' => q (Or.inl ((nI_eqi (b := 10) (by omega) (by decide)).mp q'))
        by_cases g1 : m < 32
        · have g : nI m < (32 : Int32) := nI_lt (b := 32) g1 (by decide)
          simp only [B_Md_lay_1, e2', ↓reduceIte, m2', hl_e, e, g, e1']
        · have g : ¬ nI m < (32 : Int32) := nI_nlt (b := 32) (by omega) (by omega)
          have g2 : (126 : Int32) < nI m := nI_lt (a := 126) (by omega) (by omega)
          simp only [B_Md_lay_1, e2', ↓reduceIte, m2', hl_e, e, g, g2, e1']
      rcases qq with ⟨q1, q2, q3⟩ | ⟨q1, q2⟩
      · have g : ¬ (1000 : Int32) ≤ nI (f k).1 := nI_ge (b := 1000) q2 (by decide)
        have x1 : hn_ix 1000 (nI (f k).1) = true := ix_ok q2 (by decide)
        have c1 : (nI (f k).1).toNatClampNeg = (f k).1 := nI_lt31 (by omega)
        have k31 : (hn_wI s 77 (f k).1 (nI m)).1 76 2 = nI (f k).1 := by rw [wI_o (by decide)]; exact i1
        refine ⟨hn_wI (hn_wI s 77 (f k).1 (nI m)) 76 2 (nI ((f k).1 + 1)), ⟨⟨?_, ?_⟩, ?_, i4, ?_⟩, ?_⟩
        · rw [wI_s, q3]
        · rw [q3]
          intro i hi
          show (hn_wI (hn_wI s 77 (f k).1 (nI m)) 76 2 (nI ((f k).1 + 1))).1 77 i = nI (if i = (f k).1 then m else (f k).2 i)
          rw [wI_o (by decide)]
          by_cases e : i = (f k).1
          · rw [if_pos e, e, wI_s]
          · rw [if_neg e, wI_n e]; exact i2 i (by have : i < (f k).1 + 1 := hi; omega)
        · intro b b1 b2; rw [wI_o b1, wI_o b2, i3 b b1 b2]
        · intro j hj; rw [wI_n hj, wI_o (by decide), i5 j hj]
        · show B_Md_lay_1 c' K v (56 - 8 * nI k) s = K v (56 - 8 * nI (k + 1)) _
          rw [e3, lead q1]
          simp only [B_Md_lay_2, i1, g, ↓reduceIte, x1, hg_T, c1, hl_e, k31, e1', ← nI_succ]
      · refine ⟨s, ⟨by rw [q2]; exact ⟨i1, i2⟩, i3, i4, i5⟩, ?_⟩
        show B_Md_lay_1 c' K v (56 - 8 * nI k) s = K v (56 - 8 * nI (k + 1)) _
        by_cases q : fedB m
        · have g : (1000 : Int32) ≤ nI (f k).1 := nI_le (a := 1000) (by have : ¬ (f k).1 < 1000 := fun e => q1 ⟨q, e⟩; omega) (by omega)
          rw [e3, lead q]
          simp only [B_Md_lay_2, i1, g, ↓reduceIte, e1']
        · rw [e3, leadn q]
theorem a_feed {c : Nat} {ch : Nat → Int32} {law : Law} {N : hn} (h : RR c ch law N) (u v w : Int64) : alike c ch law (F_Ps_feed c u v w) (F_Md_feed c u v w) N := by
  obtain ⟨hP, -⟩ := h.P
  obtain ⟨-, -, -, -, -, a8, a9, a10, ⟨n, n1, n2, n3, n4⟩, a12, -⟩ := id h
  obtain ⟨T, hT⟩ : ∃ T : Nat → Nat, ∀ i, i < n → (fedB (T i) ∧ N.1 4 i = nI (T i) ∧ N.1 77 i = nI (T i)) := by
    refine ⟨fun i => (N.1 4 i).toNatClampNeg, ?_⟩
    intro i hi
    obtain ⟨m, m1, m2, m3⟩ := n4 i hi
    have e : (N.1 4 i).toNatClampNeg = m := by rw [m2]; exact nI_lt31 (by omega)
    show fedB ((N.1 4 i).toNatClampNeg) ∧ N.1 4 i = nI (N.1 4 i).toNatClampNeg ∧ N.1 77 i = nI (N.1 4 i).toNatClampNeg
    rw [e]
    exact ⟨m1, m2, m3⟩
  obtain ⟨n1', T1, l1, o1, p1, q1⟩ := add_both (c := c) (c' := c) u n1 (fun i hi => (hT i hi).1)
  obtain ⟨n2', T2, l2, o2, p2, q2⟩ := add_both (c := c) (c' := c) v l1 o1
  obtain ⟨n3', T3, l3, o3, p3, q3⟩ := add_both (c := c) (c' := c) w l2 o2
  obtain ⟨A1, a1, b1, d1, e1⟩ := p1 N ⟨n2, fun i hi => (hT i hi).2.1⟩
  obtain ⟨A2, a2, b2, d2, e2⟩ := p2 A1 b1
  obtain ⟨A3, a3, b3, d3, e3⟩ := p3 A2 b2
  have d : ∀ b, b ≠ 3 → b ≠ 4 → A3.1 b = N.1 b := fun b h1 h2 => by rw [d3 b h1 h2, d2 b h1 h2, d1 b h1 h2]
  obtain ⟨M1, f1, g1, r1, s1, t1⟩ := q1 (hn_wI A3 76 0 0) ⟨by rw [wI_n (by decide), d 76 (by decide) (by decide)]; exact n3, fun i hi => by rw [wI_o (by decide), d 77 (by decide) (by decide)]; exact (hT i hi).2.2⟩
  obtain ⟨M2, f2, g2, r2, s2, t2⟩ := q2 M1 g1
  obtain ⟨M3, f3, g3, r3, s3, t3⟩ := q3 M2 g2
  have r : ∀ b, b ≠ 76 → b ≠ 77 → M3.1 b = A3.1 b := fun b h1 h2 => by rw [r3 b h1 h2, r2 b h1 h2, r1 b h1 h2, wI_o h1]
  have t : ∀ k, k ≠ 2 → k ≠ 0 → M3.1 76 k = N.1 76 k := fun k h1 h2 => by rw [t3 k h1, t2 k h1, t1 k h1, wI_n h2, d 76 (by decide) (by decide)]
  have o : ∀ b, b ≠ 3 → b ≠ 4 → b ≠ 76 → b ≠ 77 → M3.1 b = N.1 b := fun b h1 h2 h3 h4 => by rw [r b h3 h4, d b h1 h2]
  refine ⟨nI n3', A3, M3, ?_, ?_, ?_⟩
  · simp only [F_Ps_feed, a1, a2, a3, hvN_e, b3.1]
  · simp only [F_Md_feed, hl_e, f1, f2, f3, hvN_e, g3.1]
  · refine h.st (fun b _ _ => o b (by omega) (by omega) (by omega) (by omega)) (fun b _ _ => o b (by omega) (by omega) (by omega) (by omega)) (fun b _ _ => o b (by omega) (by omega) (by omega) (by omega)) ?_ ?_ ?_ ?_ ?_ ?_
    · rw [s3, s2, s1]; show A3.2 = _; rw [e3, e2, e1]
    · exact a8.off (o _ (by decide) (by decide) (by decide) (by decide)) (o _ (by decide) (by decide) (by decide) (by decide)) (o _ (by decide) (by decide) (by decide) (by decide)) (o _ (by decide) (by decide) (by decide) (by decide)) (o _ (by decide) (by decide) (by decide) (by decide))
    · exact a9.off (o _ (by decide) (by decide) (by decide) (by decide)) (o _ (by decide) (by decide) (by decide) (by decide)) (o _ (by decide) (by decide) (by decide) (by decide)) (t 21 (by decide) (by decide)) (o _ (by decide) (by decide) (by decide) (by decide))
    · exact a10.off (o _ (by decide) (by decide) (by decide) (by decide)) (fun b _ _ => o b (by omega) (by omega) (by omega) (by omega)) (o _ (by decide) (by decide) (by decide) (by decide)) (o _ (by decide) (by decide) (by decide) (by decide))
    · refine ⟨n3', l3, ?_, g3.1, ?_⟩
      · rw [r 3 (by decide) (by decide)]; exact b3.1
      · intro i hi; refine ⟨T3 i, o3 i hi, ?_, g3.2 i hi⟩; rw [r 4 (by decide) (by decide)]; exact b3.2 i hi
    · rw [t 23 (by decide) (by decide)]; exact a12
