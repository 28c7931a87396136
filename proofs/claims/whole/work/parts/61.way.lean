/-! the way of a stall: what is least; bits of longs -/
def BIG : Nat := 1000000
def mnF (S : Nat → Bool) (f : Nat → Nat) : Nat → Nat
  | 0 => BIG
  | n + 1 => if S n = true ∧ f n < mnF S f n then f n else mnF S f n
def agF (S : Nat → Bool) (f : Nat → Nat) : Nat → Nat
  | 0 => 0
  | n + 1 => if S n = true ∧ f n < mnF S f n then n else agF S f n
theorem mn_le {S : Nat → Bool} {f : Nat → Nat} : ∀ n, mnF S f n ≤ BIG
  | 0 => Nat.le_refl _
  | n + 1 => by
    rw [mnF]; have := mn_le (S := S) (f := f) n
    split
    · omega
    · exact this
theorem mn_all {S : Nat → Bool} {f : Nat → Nat} : ∀ {n k : Nat}, k < n → S k = true → mnF S f n ≤ f k
  | n + 1, k, hk, hs => by
    rw [mnF]
    by_cases e : k = n
    · subst e
      by_cases q : f k < mnF S f k
      · rw [if_pos ⟨hs, q⟩]; exact Nat.le_refl _
      · rw [if_neg (fun z => q z.2)]; omega
    · have := mn_all (S := S) (f := f) (n := n) (by omega) hs
      split
      · omega
      · exact this
theorem ag_ok {S : Nat → Bool} {f : Nat → Nat} : ∀ {n : Nat}, mnF S f n < BIG → agF S f n < n ∧ S (agF S f n) = true ∧ f (agF S f n) = mnF S f n ∧ ∀ k, k < agF S f n → S k = true → mnF S f n < f k
  | 0, h => by rw [mnF] at h; omega
  | n + 1, h => by
    rw [mnF, agF] at *
    by_cases q : S n = true ∧ f n < mnF S f n
    · rw [if_pos q] at h ⊢
      rw [if_pos q]
      refine ⟨by omega, q.1, rfl, fun k hk hs => ?_⟩
      have := mn_all (f := f) hk hs
      omega
    · rw [if_neg q] at h ⊢
      rw [if_neg q]
      obtain ⟨a1, a2, a3, a4⟩ := ag_ok h
      exact ⟨by omega, a2, a3, a4⟩
theorem mn_lt {S : Nat → Bool} {f : Nat → Nat} {n k : Nat} (hk : k < n) (hs : S k = true) (hf : f k < BIG) : mnF S f n < BIG := Nat.lt_of_le_of_lt (mn_all hk hs) hf
/-- the first with the least value -/
theorem ag_one {S : Nat → Bool} {f : Nat → Nat} {n p : Nat} (h : mnF S f n < BIG) (hp : p < n) (hs : S p = true) (he : f p = mnF S f n) (hq : ∀ k, k < p → S k = true → f k ≠ mnF S f n) : p = agF S f n := by
  obtain ⟨a1, a2, a3, a4⟩ := ag_ok h
  rcases Nat.lt_trichotomy p (agF S f n) with q | q | q
  · have := a4 p q hs; omega
  · exact q
  · exact absurd a3 (hq _ q a2)
/-- steps still to go, r hours ahead of the last -/
def cR (S : Nat → Nat → Bool) (H : Nat) : Nat → Nat → Nat
  | 0, _ => 0
  | r + 1, k => mnF (S (H - 1 - r)) (fun e => dst k e + cR S H r e) 64
theorem dst_le {k e : Nat} (hk : k < 64) (he : e < 64) : dst k e ≤ 14 := by unfold dst; omega
theorem dst_tri (a b x : Nat) : dst a x ≤ dst a b + dst b x := by unfold dst; omega
theorem dst_self (a : Nat) : dst a a = 0 := by unfold dst; omega
theorem cR_le {S : Nat → Nat → Bool} {H : Nat} (hS : ∀ h, ∃ k, k < 64 ∧ S h k = true) : ∀ r k, k < 64 → cR S H r k ≤ 14 * r
  | 0, _, _ => Nat.le_refl _
  | r + 1, k, hk => by
    obtain ⟨e, e1, e2⟩ := hS (H - 1 - r)
    have h1 := cR_le (H := H) hS r e e1
    have h2 := dst_le hk e1
    have h3 : cR S H (r + 1) k ≤ dst k e + cR S H r e := mn_all (f := fun e => dst k e + cR S H r e) e1 e2
    omega
theorem cR_big {S : Nat → Nat → Bool} {H : Nat} (hS : ∀ h, ∃ k, k < 64 ∧ S h k = true) {r : Nat} (hr : r < 24) {k : Nat} (hk : k < 64) : mnF (S (H - 1 - r)) (fun e => dst k e + cR S H r e) 64 < BIG := by
  have := cR_le (H := H) hS (r + 1) k hk
  rw [cR] at this
  unfold BIG
  omega
theorem cR_lip {S : Nat → Nat → Bool} {H : Nat} (hS : ∀ h, ∃ k, k < 64 ∧ S h k = true) : ∀ r, r ≤ 24 → ∀ a b, a < 64 → b < 64 → cR S H r a ≤ dst a b + cR S H r b
  | 0, _, _, _, _, _ => Nat.zero_le _
  | r + 1, hr, a, b, ha, hb => by
    obtain ⟨x1, x2, x3, -⟩ := ag_ok (cR_big (H := H) hS (r := r) (by omega) hb)
    have h1 : cR S H (r + 1) a ≤ dst a (agF (S (H - 1 - r)) (fun e => dst b e + cR S H r e) 64) + cR S H r (agF (S (H - 1 - r)) (fun e => dst b e + cR S H r e) 64) := mn_all (f := fun e => dst a e + cR S H r e) x1 x2
    have h2 : cR S H (r + 1) b = dst b (agF (S (H - 1 - r)) (fun e => dst b e + cR S H r e) 64) + cR S H r (agF (S (H - 1 - r)) (fun e => dst b e + cR S H r e) 64) := x3.symm
    have h3 := dst_tri a b (agF (S (H - 1 - r)) (fun e => dst b e + cR S H r e) 64)
    omega
/-- where one may stand anywhere, to stay is best -/
theorem cR_stay {S : Nat → Nat → Bool} {H : Nat} (hS : ∀ h, ∃ k, k < 64 ∧ S h k = true) {r : Nat} (hr : r < 24) {k : Nat} (hk : k < 64) (hs : S (H - 1 - r) k = true) : cR S H (r + 1) k = cR S H r k := by
  obtain ⟨x1, x2, x3, -⟩ := ag_ok (cR_big (H := H) hS (r := r) hr hk)
  have h1 : cR S H (r + 1) k ≤ dst k k + cR S H r k := mn_all (f := fun e => dst k e + cR S H r e) hk hs
  have h2 : cR S H (r + 1) k = dst k (agF (S (H - 1 - r)) (fun e => dst k e + cR S H r e) 64) + cR S H r (agF (S (H - 1 - r)) (fun e => dst k e + cR S H r e) 64) := x3.symm
  have h3 := cR_lip (H := H) hS r (by omega) k (agF (S (H - 1 - r)) (fun e => dst k e + cR S H r e) 64) hk x1
  rw [dst_self] at h1
  omega
/-- the row of places -/
def plR (S : Nat → Nat → Bool) (H : Nat) : Nat → Nat
  | 0 => agF (S 0) (fun e => cR S H (H - 1) e) 64
  | h + 1 => agF (S (h + 1)) (fun e => dst (plR S H h) e + cR S H (H - 1 - (h + 1)) e) 64
/-! bits of longs -/
def bL (x : Int64) (k : Nat) : Bool := x.toBitVec.getLsbD k
theorem bL_ext {x y : Int64} (h : ∀ i, i < 64 → bL x i = bL y i) : x = y := by
  apply wb_inj
  apply BitVec.eq_of_getLsbD_eq
  intro i hi
  exact h i hi
theorem bL_or (x y : Int64) (i : Nat) : bL (x ||| y) i = (bL x i || bL y i) := by unfold bL; rw [Int64.toBitVec_or, BitVec.getLsbD_or]
theorem bL_0 (i : Nat) : bL 0 i = false := by unfold bL; simp
theorem bL_n {n i : Nat} (hi : i < 64) : bL (lN n) i = n.testBit i := by
  unfold bL; rw [wb_tb, BitVec.getLsbD_ofNat]; simp [hi]
theorem bL_1 {k i : Nat} (hk : k < 64) (hi : i < 64) : bL ((1 : Int64) <<< ((nI k).toInt64 &&& 63)) i = decide (i = k) := by
  rw [show (1 : Int64) = lN 1 from rfl, wb_shl 1 hk, bL_n hi, Nat.one_mul, Nat.testBit_two_pow]
  by_cases e : k = i
  · subst e; simp
  · simp [e, Ne.symm e]
theorem bL_t {x : Int64} {k : Nat} (hk : k < 64) : (lg_cmp (((x.toUInt64 >>> ((nI k).toInt64.toUInt64 &&& Int64.toUInt64 63)).toInt64) &&& (1 : Int64)) (1 : Int64)) = 0 ↔ bL x k = true := by
  obtain ⟨n, hn1, rfl⟩ := wb_of x
  rw [lgc, wb_bit hn1 hk, bL_n hk, show (1 : Int64) = lN 1 from rfl, fb_lN_inj (by have := Nat.mod_lt (n / 2 ^ k) (show 2 > 0 by decide); omega) (by decide)]
  rw [Nat.testBit_eq_decide_div_mod_eq]; simp
theorem bL_z {x : Int64} : x = 0 ↔ ∀ i, i < 64 → bL x i = false := by
  constructor
  · rintro rfl i _; exact bL_0 i
  · intro h; apply bL_ext; intro i hi; rw [h i hi, bL_0]
/-! where a stall may stand -/
def owS (ch : Nat → Int32) (law : Law) (st : Nat → Int32) (t g k : Nat) : Bool := anyF (fun p => decide (st p = nI g) && onS ch law st t (nI k) p) (nP ch)
def stS (ch : Nat → Int32) (law : Law) (st : Nat → Int32) (t g k : Nat) : Bool := if anyF (owS ch law st t g) 64 then owS ch law st t g k else onP ch k
theorem spF_onP {ch : Nat → Int32} (hch : chOK ch) {law : Law} {t p k : Nat} (hk : k < 64) (h : spF ch law t p = nI k) : onP ch k = true := by
  have nm : ¬ (-1 : Int32) = nI k := fun e => nI_nm (show k < 2147483648 by omega) e.symm
  rcases Nat.lt_or_ge p (nP ch) with hp | hp
  · by_cases hd : lawV law 2 (facT t 0 0) = 0
    · rw [spF_eq hch hp hd] at h
      obtain ⟨⟨w1, -, w2⟩, ⟨d1, -, d2⟩, -⟩ := hch
      split at h
      · exact absurd h nm
      · split at h
        · exact absurd h nm
        · split at h
          · exact absurd h nm
          · split at h
            · exact absurd h nm
            · rename_i q1 q2 q3 q4
              rw [w1] at q2
              rw [d1] at q4
              obtain ⟨x, hx, ex⟩ := i32_in q1 q2 (by omega)
              obtain ⟨y, hy, ey⟩ := i32_in q3 q4 (by omega)
              rw [ex, ey, show (8 : Int32) = nI 8 from rfl, nI_m, nI_a, nI_eqi (by omega) (by omega)] at h
              unfold onP
              have e1 : k % 8 = x := by omega
              have e2 : k / 8 = y := by omega
              simp [e1, e2, hx, hy]
    · rw [spF_dark hd] at h; exact absurd h nm
  · rw [spF_out hp] at h; exact absurd h nm
theorem stS_some {ch : Nat → Int32} (hch : chOK ch) {law : Law} {st : Nat → Int32} {t g : Nat} : ∃ k, k < 64 ∧ stS ch law st t g k = true := by
  by_cases q : anyF (owS ch law st t g) 64 = true
  · obtain ⟨k, k1, k2⟩ := anyF_iff.mp q
    exact ⟨k, k1, by unfold stS; rw [if_pos q]; exact k2⟩
  · obtain ⟨⟨-, w1, -⟩, ⟨-, d1, -⟩, -⟩ := hch
    refine ⟨0, by decide, ?_⟩
    unfold stS onP; rw [if_neg q]; simp; omega
theorem stS_on {ch : Nat → Int32} (hch : chOK ch) {law : Law} {st : Nat → Int32} {t g k : Nat} (hk : k < 64) (h : stS ch law st t g k = true) : onP ch k = true := by
  unfold stS at h
  by_cases q : anyF (owS ch law st t g) 64 = true
  · rw [if_pos q] at h
    obtain ⟨p, p1, p2⟩ := anyF_iff.mp h
    unfold onS at p2
    simp only [Bool.and_eq_true, decide_eq_true_eq] at p2
    exact spF_onP hch hk p2.2.1
  · rw [if_neg q] at h; exact h
theorem floor_ok {c : Nat} {ch : Nat → Int32} {law : Law} {N : hn} (h : RR c ch law N) : ∃ x, F_Way_floorOf c c N = some (x, N) ∧ ∀ k, k < 64 → bL x k = onP ch k := by
  refine it_wp (B := B_Way_floorOf_1 c) (z := fun _ _ _ _ => none) (fun K k (s : Int64) => K c s (nI k) N) 64 (fun k s => ∀ i, i < 64 → bL s i = (decide (i < k) && onP ch i))
    (Q := fun y => ∃ x, y = some (x, N) ∧ ∀ k, k < 64 → bL x k = onP ch k) ?_ ?_ (n := hN) (k := 0) (s := 0) (by omega) (hN_big (by omega)) (fun i _ => by rw [bL_0]; simp)
  · intro K s hs
    have g : (64 : Int32) ≤ nI 64 := by decide
    refine ⟨s, ?_, fun k hk => by rw [hs k hk]; simp [hk]⟩
    simp only [B_Way_floorOf_1, g, ↓reduceIte]
  · intro K k s hk hs
    right
    have g : ¬ (64 : Int32) ≤ nI k := nI_ge (b := 64) hk (by decide)
    have z : ¬ (1 : Int32) = 0 := by decide
    by_cases q : onP ch k = true
    · refine ⟨s ||| ((1 : Int64) <<< ((nI k).toInt64 &&& 63)), ?_, ?_⟩
      · intro i hi
        rw [bL_or, hs i hi, bL_1 hk hi]
        by_cases e : i = k
        · subst e; simp [q]
        · have : (i < k + 1) ↔ i < k := by omega
          simp [e, this]
      · simp only [B_Way_floorOf_1, g, ↓reduceIte, div8 hk, mod8 hk, ps_onP h hk, q, hbN_e, z, hl_e, ← nI_succ]
    · have q' : onP ch k = false := by simpa using q
      refine ⟨s, ?_, ?_⟩
      · intro i hi
        rw [hs i hi]
        by_cases e : i = k
        · subst e; simp [q']
        · have : (i < k + 1) ↔ i < k := by omega
          simp [this]
      · simp only [B_Way_floorOf_1, g, ↓reduceIte, div8 hk, mod8 hk, ps_onP h hk, q', Bool.false_eq_true, hbN_e, ← nI_succ]
theorem places_ok {c : Nat} {ch : Nat → Int32} {law : Law} {N : hn} (h : RR c ch law N) {t g : Nat} (hg : g < 6) (ha : atT c ch law t N) {pb : Int32} (hb : ∀ i, i < 32 → bt pb i = (decide (i < nP ch) && (decide (N.1 88 i = nI g) && !bt (N.1 88 12) i))) :
    ∃ x, F_Light_placesOf c pb N = some (x, N) ∧ ∀ k, k < 64 → bL x k = owS ch law (N.1 88) t g k := by
  have hP := h.P.1
  obtain ⟨-, a2, -⟩ := id h
  refine it_wp (B := B_Light_placesOf_1 c) (z := fun _ _ _ _ => none) (fun K k (s : Int64) => K pb s (nI k) N) 12 (fun k s => ∀ i, i < 64 → bL s i = anyF (fun p => bt pb p && decide (spF ch law t p = nI i)) k)
    (Q := fun y => ∃ x, y = some (x, N) ∧ ∀ k, k < 64 → bL x k = owS ch law (N.1 88) t g k) ?_ ?_ (n := hN) (k := 0) (s := 0) (by omega) (hN_big (by omega)) (fun i _ => by rw [bL_0]; rfl)
  · intro K s hs
    have g1 : (12 : Int32) ≤ nI 12 := by decide
    refine ⟨s, by simp only [B_Light_placesOf_1, g1, ↓reduceIte], ?_⟩
    intro k hk
    rw [hs k hk]
    unfold owS
    cases e1 : anyF (fun p => bt pb p && decide (spF ch law t p = nI k)) 12
    · cases e2 : anyF (fun p => decide (N.1 88 p = nI g) && onS ch law (N.1 88) t (nI k) p) (nP ch)
      · rfl
      · exfalso
        obtain ⟨p, p1, p2⟩ := anyF_iff.mp e2
        unfold onS at p2
        simp only [Bool.and_eq_true, decide_eq_true_eq, Bool.not_eq_true'] at p2
        have : anyF (fun p => bt pb p && decide (spF ch law t p = nI k)) 12 = true := anyF_iff.mpr ⟨p, by omega, by rw [hb p (by omega)]; simp [p1, p2.1, p2.2.1, p2.2.2]⟩
        rw [this] at e1; exact absurd e1 (by decide)
    · obtain ⟨p, p1, p2⟩ := anyF_iff.mp e1
      rw [hb p (by omega)] at p2
      simp only [Bool.and_eq_true, decide_eq_true_eq, Bool.not_eq_true'] at p2
      symm
      exact anyF_iff.mpr ⟨p, p2.1.1, by unfold onS; simp [p2.1.2.1, p2.1.2.2, p2.2]⟩
  · intro K k s hk hs
    right
    have g1 : ¬ (12 : Int32) ≤ nI k := nI_ge (b := 12) hk (by decide)
    have x1 : hn_ix 12 (nI k) = true := ix_ok hk (by decide)
    have c1 : (nI k).toNatClampNeg = k := nI_lt31 (by omega)
    have sk := ha.2.2.2 k hk
    rcases spF_or a2 law t k with q | ⟨m, m1, m2⟩
    · refine ⟨s, ?_, ?_⟩
      · intro i hi
        rw [hs i hi, anyF, q]
        have : ¬ (-1 : Int32) = nI i := fun e => nI_nm (show i < 2147483648 by omega) e.symm
        simp [this]
      · simp only [B_Light_placesOf_1, g1, ↓reduceIte, x1, hg_T, c1, sk, q, ← nI_succ]
    · have nm : ¬ nI m = (-1 : Int32) := nI_nm (by omega)
      by_cases q2 : bt pb k = true
      · refine ⟨s ||| ((1 : Int64) <<< ((nI m).toInt64 &&& 63)), ?_, ?_⟩
        · intro i hi
          rw [bL_or, hs i hi, bL_1 m1 hi, anyF, m2, q2]
          by_cases e : i = m
          · subst e; simp
          · have : ¬ nI m = nI i := fun z => e ((nI_eqi (by omega) (by omega)).mp z).symm
            simp [e, this]
        · simp only [B_Light_placesOf_1, g1, ↓reduceIte, x1, hg_T, c1, sk, m2, nm, bt_sh (show k < 32 by omega), q2, hl_e, ← nI_succ]
      · have q2' : bt pb k = false := by simpa using q2
        refine ⟨s, ?_, ?_⟩
        · intro i hi; rw [hs i hi, anyF, q2']; simp
        · simp only [B_Light_placesOf_1, g1, ↓reduceIte, x1, hg_T, c1, sk, m2, nm, bt_sh (show k < 32 by omega), q2', Bool.false_eq_true, ← nI_succ]
