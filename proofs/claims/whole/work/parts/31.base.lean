/-! THE PURE PART: base: memory, loops, numbers, bits -/
theorem hbN_s {α β : Type} {r : α} {N : hn} {k : α → hn → Option β} : hbN (some (r, N)) k = k r N := rfl
theorem hvN_s {β : Type} {N : hn} {k : hn → Option β} : hvN (some N) k = k N := rfl
theorem hl_s {α β : Type} {x : α} {k : α → β} : hl x k = k x := rfl
theorem nI_lt31 {k : Nat} (h : k < 2147483648) : (nI k).toNatClampNeg = k := nI_clamp (by omega)
theorem ix_ok {n k : Nat} (h : k < n) (hn : n < 2147483648) : hn_ix n (nI k) = true := by
  unfold hn_ix
  rw [nI_clamp (by omega)]
  simp [nI_pos' (show k < 2 ^ 31 by omega), h]
theorem wI_s {N : hn} {a i : Nat} {v : Int32} : (hn_wI N a i v).1 a i = v := by simp [hn_wI, hm_up]
theorem wI_o {N : hn} {a i : Nat} {v : Int32} {b : Nat} (h : b ≠ a) : (hn_wI N a i v).1 b = N.1 b := by funext j; simp [hn_wI, hm_up, h]
theorem wI_n {N : hn} {a i : Nat} {v : Int32} {b j : Nat} (h : j ≠ i) : (hn_wI N a i v).1 b j = N.1 b j := by simp [hn_wI, hm_up, h]
theorem wI_2 {N : hn} {a i : Nat} {v : Int32} : (hn_wI N a i v).2 = N.2 := rfl
theorem wI_i {N : hn} {a i : Nat} {v : Int32} {b j : Nat} : (hn_wI N a i v).1 b j = if b = a ∧ j = i then v else N.1 b j := rfl
theorem wL_s {N : hn} {a i : Nat} {v : Int64} : (hn_wL N a i v).2 a i = v := by simp [hn_wL, hm_up]
theorem wL_o {N : hn} {a i : Nat} {v : Int64} {b : Nat} (h : b ≠ a) : (hn_wL N a i v).2 b = N.2 b := by funext j; simp [hn_wL, hm_up, h]
theorem wL_n {N : hn} {a i : Nat} {v : Int64} {b j : Nat} (h : j ≠ i) : (hn_wL N a i v).2 b j = N.2 b j := by simp [hn_wL, hm_up, h]
theorem wL_1 {N : hn} {a i : Nat} {v : Int64} : (hn_wL N a i v).1 = N.1 := rfl
theorem wL_i {N : hn} {a i : Nat} {v : Int64} {b j : Nat} : (hn_wL N a i v).2 b j = if b = a ∧ j = i then v else N.2 b j := rfl
theorem hN_big {a : Nat} (h : a < 100000) : a < hN := h
/-- the rule of a counted loop: P is kept from k on up to e, or the loop is left by Q -/
theorem it_wp {τ σ α : Type} {B : τ → τ} {z : τ} (app : τ → Nat → σ → α) (e : Nat) (P : Nat → σ → Prop) {Q : α → Prop}
    (hend : ∀ K s, P e s → Q (app (B K) e s))
    (hstep : ∀ K k s, k < e → P k s → Q (app (B K) k s) ∨ ∃ s', P (k + 1) s' ∧ app (B K) k s = app K (k + 1) s') :
    ∀ {n k : Nat} {s : σ}, k ≤ e → e - k < n → P k s → Q (app (hm_it B z n) k s) := by
  intro n
  induction n with
  | zero => intro k s _ h; omega
  | succ n ih =>
    intro k s hk hn hP
    rcases Nat.lt_or_ge k e with h | h
    · rcases hstep (hm_it B z n) k s h hP with q | ⟨s', q1, q2⟩
      · exact q
      · show Q (app (B (hm_it B z n)) k s)
        rw [q2]
        exact ih (by omega) (by omega) q1
    · have e1 : k = e := by omega
      subst e1
      exact hend _ s hP
/-- the rule of a loop with a measure -/
theorem it_ms {τ σ α : Type} {B : τ → τ} {z : τ} (app : τ → σ → α) (P : Nat → σ → Prop) {Q : α → Prop}
    (hstep : ∀ K m s, P m s → Q (app (B K) s) ∨ ∃ m' s', m' < m ∧ P m' s' ∧ app (B K) s = app K s') :
    ∀ {n m : Nat} {s : σ}, m < n → P m s → Q (app (hm_it B z n) s) := by
  intro n
  induction n with
  | zero => intro m s h; omega
  | succ n ih =>
    intro m s hn hP
    rcases hstep (hm_it B z n) m s hP with q | ⟨m', s', q0, q1, q2⟩
    · exact q
    · show Q (app (B (hm_it B z n)) s)
      rw [q2]
      exact ih (by omega) q1
/-! numbers -/
theorem nI_a (a b : Nat) : nI a + nI b = nI (a + b) := by simp [nI, Int32.ofNat_add]
theorem nI_m (a b : Nat) : nI a * nI b = nI (a * b) := by simp [nI, Int32.ofNat_mul]
theorem nI_s {a b : Nat} (h : b ≤ a) : nI a - nI b = nI (a - b) := by
  have e : nI a = nI (a - b) + nI b := by rw [nI_a]; congr 1; omega
  rw [e, Int32.add_sub_cancel]
theorem nI_lei {a b : Nat} (ha : a < 2147483648) (hb : b < 2147483648) : nI a ≤ nI b ↔ a ≤ b := by
  rw [Int32.le_iff_toInt_le, nI_toInt (by omega), nI_toInt (by omega)]; omega
theorem nI_lti {a b : Nat} (ha : a < 2147483648) (hb : b < 2147483648) : nI a < nI b ↔ a < b := by
  rw [Int32.lt_iff_toInt_lt, nI_toInt (by omega), nI_toInt (by omega)]; omega
theorem nI_eqi {a b : Nat} (ha : a < 2147483648) (hb : b < 2147483648) : nI a = nI b ↔ a = b := by
  rw [← Int32.toInt_inj, nI_toInt (by omega), nI_toInt (by omega)]; omega
theorem nI_d {a b : Nat} (ha : a < 2147483648) (hb : b < 2147483648) : nI a / nI b = nI (a / b) := by
  have h1 : (nI a).toInt = a := nI_toInt (by omega)
  have h2 : (nI b).toInt = b := nI_toInt (by omega)
  have h3 : a / b ≤ a := Nat.div_le_self a b
  have h4 : (nI (a / b)).toInt = (a / b : Nat) := nI_toInt (by omega)
  apply Int32.toInt_inj.mp
  rw [Int32.toInt_div, h1, h2, h4]
  have h5 : (a : Int).tdiv (b : Int) = ((a / b : Nat) : Int) := by
    rw [Int.tdiv_eq_ediv_of_nonneg (by omega)]; simp
  rw [h5]
  clear h4 h5
  generalize a / b = q at h3 ⊢
  exact fb_bmod (by omega) (by omega)
theorem nI_r {a b : Nat} (ha : a < 2147483648) (hb : b < 2147483648) : nI a - nI a / nI b * nI b = nI (a % b) := by
  rw [nI_d ha hb, nI_m]
  have h := Nat.div_add_mod a b
  have e : a / b * b = b * (a / b) := Nat.mul_comm _ _
  rw [nI_s (by omega)]
  congr 1
  omega
theorem nI_ex {x : Int32} (h : 0 ≤ x) : ∃ n, n < 2147483648 ∧ x = nI n := by
  have h1 : 0 ≤ x.toInt := by have := Int32.le_iff_toInt_le.mp h; simpa using this
  have h2 := fb_rng x
  refine ⟨x.toInt.toNat, by omega, ?_⟩
  apply Int32.toInt_inj.mp
  rw [nI_toInt (by omega)]
  omega
theorem nI_nn {n : Nat} (h : n < 2147483648) : ¬ nI n < 0 := nI_pos (by omega)
theorem nI_p {n : Nat} (h : n < 2147483648) : (0 : Int32) ≤ nI n := nI_pos' (by omega)
theorem nI_nm {n : Nat} (h : n < 2147483648) : ¬ nI n = (-1 : Int32) := by
  intro e
  have h1 := congrArg Int32.toInt e
  rw [nI_toInt (by omega)] at h1
  have h2 : (-1 : Int32).toInt = -1 := by decide
  omega
/-- an index in bounds, or not an index -/
theorem i32_in {x : Int32} {n : Nat} (h1 : ¬ x < 0) (h2 : ¬ nI n ≤ x) (hn : n < 2147483648) : ∃ k, k < n ∧ x = nI k := by
  obtain ⟨k, hk, e⟩ := nI_ex (fa_of_nlt h1)
  subst e
  rw [nI_lei hn hk] at h2
  exact ⟨k, by omega, rfl⟩
/-! bits -/
theorem bt_sh {x : Int32} {k : Nat} (hk : k < 32) : ((x >>> (nI k &&& 31)) &&& (1 : Int32)) = 1 ↔ bt x k = true := by
  constructor
  · intro h
    have h1 := congrArg (fun y => bt y 0) h
    simp only [b_and, b_sshr k hk x (show 0 < 32 by omega), Nat.add_zero, hk, if_true] at h1
    have h2 : bt 1 0 = true := by decide
    rw [h2] at h1
    simpa using h1
  · intro h
    apply b_ext
    intro i hi
    rw [b_and, b_sshr k hk x hi]
    have h1 : ∀ j, j < 32 → bt 1 j = decide (j = 0) := by decide
    rw [h1 i hi]
    by_cases e : i = 0
    · subst e; simp [hk, h]
    · simp [e]
theorem bt_sh0 {x : Int32} {k : Nat} (hk : k < 32) : ((x >>> (nI k &&& 31)) &&& (1 : Int32)) = if bt x k then 1 else 0 := by
  by_cases h : bt x k = true
  · rw [if_pos h]; exact (bt_sh hk).mpr h
  · rw [if_neg h]
    apply b_ext
    intro i hi
    rw [b_and, b_sshr k hk x hi]
    have h1 : ∀ j, j < 32 → bt 1 j = decide (j = 0) := by decide
    rw [h1 i hi, b_0]
    by_cases e : i = 0
    · subst e; simp [hk] at h ⊢; exact h
    · simp [e]
theorem bt_1sh {k i : Nat} (hk : k < 32) (hi : i < 32) : bt ((1 : Int32) <<< (nI k &&& 31)) i = decide (i = k) := by
  rw [b_shl k hk 1 hi]
  have h1 : ∀ j, j < 32 → bt 1 j = decide (j = 0) := by decide
  rcases Nat.lt_or_ge i k with h | h
  · have : ¬ i = k := by omega
    simp [Nat.not_le.mpr h, this]
  · rw [h1 _ (by omega)]
    by_cases e : i = k
    · subst e; simp
    · have : ¬ i - k = 0 := by omega
      simp [e, this]
theorem bt_not {x : Int32} {i : Nat} (hi : i < 32) : bt (x ^^^ (-1 : Int32)) i = !bt x i := by
  rw [b_xor, b_m1 i hi]; cases bt x i <;> rfl
theorem bt_msk : ∀ P, P < 31 → ∀ i, i < 32 → bt (((1 : Int32) <<< (nI P &&& 31)) - 1) i = decide (i < P) := by decide +kernel
def bitsF (p : Nat → Bool) : Nat → Int32
  | 0 => 0
  | n + 1 => bitsF p n ||| (if p n then (1 : Int32) <<< (nI n &&& 31) else 0)
theorem bt_bitsF {p : Nat → Bool} {n i : Nat} (hn : n ≤ 32) (hi : i < 32) : bt (bitsF p n) i = (decide (i < n) && p i) := by
  induction n with
  | zero => simp [bitsF, b_0]
  | succ n ih =>
    rw [bitsF, b_or, ih (by omega)]
    by_cases h : p n = true
    · rw [if_pos h, bt_1sh (by omega) hi]
      by_cases e : i = n
      · subst e; simp [h]
      · have : (i < n + 1) ↔ i < n := by omega
        simp [e, this]
    · rw [if_neg h, b_0]
      by_cases e : i = n
      · subst e; simp at h; simp [h]
      · have : (i < n + 1) ↔ i < n := by omega
        simp [this]
theorem bitsF_cong {p q : Nat → Bool} : ∀ {n : Nat}, (∀ i, i < n → p i = q i) → bitsF p n = bitsF q n
  | 0, _ => rfl
  | n + 1, h => by rw [bitsF, bitsF, bitsF_cong (fun i hi => h i (by omega)), h n (by omega)]
theorem bitsF_false {p : Nat → Bool} {n : Nat} (h : ∀ i, i < n → p i = false) : bitsF p n = 0 := by
  induction n with
  | zero => rfl
  | succ n ih => rw [bitsF, ih (fun i hi => h i (by omega)), h n (by omega)]; simp
theorem bitsF_ext {p : Nat → Bool} {m n : Nat} (hmn : m ≤ n) (h : ∀ i, m ≤ i → i < n → p i = false) : bitsF p n = bitsF p m := by
  induction n with
  | zero => have : m = 0 := by omega
            subst this; rfl
  | succ n ih =>
    rcases Nat.lt_or_ge m (n + 1) with q | q
    · rw [bitsF, ih (by omega) (fun i h1 h2 => h i h1 (by omega)), h n (by omega) (by omega)]
      simp
    · have : m = n + 1 := by omega
      subst this; rfl
theorem bitsF_0 {p : Nat → Bool} {n : Nat} (hn : n ≤ 31) : bitsF p n = 0 ↔ ∀ i, i < n → p i = false := by
  constructor
  · intro h i hi
    have h1 := bt_bitsF (p := p) (n := n) (i := i) (by omega) (by omega)
    rw [h, b_0] at h1
    simpa [hi] using h1.symm
  · exact bitsF_false
theorem bitsF_nat (p : Nat → Bool) : ∀ n, n ≤ 31 → ∃ m, m < 2 ^ n ∧ bitsF p n = nI m ∧ ∀ i, i < n → m.testBit i = p i
  | 0, _ => ⟨0, by decide, rfl, fun i hi => absurd hi (Nat.not_lt_zero i)⟩
  | n + 1, hn => by
    obtain ⟨m, h1, h2, h3⟩ := bitsF_nat p n (by omega)
    have hs : ∀ k, k < 31 → (1 : Int32) <<< (nI k &&& 31) = nI (2 ^ k) := by decide +kernel
    have hp : 2 ^ (n + 1) = 2 ^ n + 2 ^ n := by rw [Nat.pow_succ]; omega
    by_cases h : p n = true
    · refine ⟨m ||| 2 ^ n, ?_, ?_, ?_⟩
      · apply Nat.or_lt_two_pow <;> omega
      · rw [bitsF, if_pos h, h2, hs n (by omega), fa_or]
      · intro i hi
        rw [fb_bit_set]
        by_cases e : i = n
        · subst e; simp [h]
        · rw [h3 i (by omega)]; simp [e]
    · refine ⟨m, by omega, ?_, ?_⟩
      · rw [bitsF, if_neg h, h2]; simp
      · intro i hi
        by_cases e : i = n
        · subst e
          rw [Nat.testBit_lt_two_pow h1]
          simp at h; exact h.symm
        · exact h3 i (by omega)
theorem bitsF_lt {p : Nat → Bool} {n : Nat} (hn : n ≤ 12) : ∃ m, m < 4096 ∧ bitsF p n = nI m := by
  obtain ⟨m, h1, h2, -⟩ := bitsF_nat p n (by omega)
  refine ⟨m, ?_, h2⟩
  have : 2 ^ n ≤ 2 ^ 12 := Nat.pow_le_pow_right (by omega) hn
  omega
