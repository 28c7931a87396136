/-! where light falls: the class's side -/
theorem lgc {x y : Int64} : lg_cmp x y = 0 ↔ x = y := by
  unfold lg_cmp
  by_cases h : x > y
  · rw [if_pos h]
    constructor
    · intro e; exact absurd e (by decide)
    · intro e; subst e; exact absurd h (Int64.lt_irrefl)
  · rw [if_neg h]
    by_cases e : x = y
    · rw [if_pos e]; exact ⟨fun _ => e, fun _ => rfl⟩
    · rw [if_neg e]
      constructor
      · intro q; exact absurd q (by decide)
      · intro q; exact absurd q e
theorem nI_64 {n : Nat} (h : n < 2147483648) : (nI n).toInt64 = lN n := by
  apply Int64.toInt_inj.mp
  rw [Int32.toInt_toInt64, nI_toInt (by omega), pf_lI (by omega)]
theorem lN_32 {n : Nat} (h : n < 2147483648) : (lN n).toInt32 = nI n := by
  apply Int32.toInt_inj.mp
  rw [Int64.toInt_toInt32, nI_toInt (by omega), pf_lI (by omega)]
  exact fb_bmod (by omega) (by omega)
abbrev KN : Int64 := -9223372036854775808
def pk (a : Nat → Nat) : Nat → Nat
  | 0 => 0
  | k + 1 => pk a k + a k * 2 ^ (8 * k)
theorem pk_ltb {a : Nat → Nat} (h : ∀ i, a i ≤ 64) : ∀ k, pk a k < 2 ^ (8 * k)
  | 0 => by simp [pk]
  | k + 1 => by
    have h1 := pk_ltb h k
    have h2 : 2 ^ (8 * (k + 1)) = 2 ^ (8 * k) * 256 := by rw [show 8 * (k + 1) = 8 * k + 8 by omega, Nat.pow_add]
    have h3 : a k * 2 ^ (8 * k) ≤ 64 * 2 ^ (8 * k) := Nat.mul_le_mul_right _ (h k)
    rw [pk]
    omega
theorem pk_ext {a : Nat → Nat} {m n : Nat} (hmn : m ≤ n) (h : ∀ i, m ≤ i → i < n → a i = 0) : pk a n = pk a m := by
  induction n with
  | zero => have : m = 0 := by omega
            subst this; rfl
  | succ n ih =>
    rcases Nat.lt_or_ge m (n + 1) with q | q
    · rw [pk, ih (by omega) (fun i h1 h2 => h i h1 (by omega)), h n (by omega) (by omega)]; omega
    · have : m = n + 1 := by omega
      subst this; rfl
theorem pk_or {a : Nat → Nat} (h : ∀ i, a i ≤ 64) {k : Nat} : lN (pk a k) ||| lN (a k * 2 ^ (8 * k)) = lN (pk a (k + 1)) := by
  rw [Int64.or_comm, Nat.mul_comm (a k), fb_or_sumL (a k) (pk_ltb h k), pk]
  congr 1
  rw [Nat.mul_comm]; omega
theorem pk_dec {a : Nat → Nat} (h : ∀ i, a i ≤ 64) {p : Nat} (hp : p < 6) : pk a 6 / 2 ^ (8 * p) % 2 ^ 8 = a p ∧ (2 ^ 63 + pk a 6) / 2 ^ (8 * p) % 2 ^ 8 = a p := by
  have h0 := h 0
  have h1 := h 1
  have h2 := h 2
  have h3 := h 3
  have h4 := h 4
  have h5 := h 5
  have hh : p = 0 ∨ p = 1 ∨ p = 2 ∨ p = 3 ∨ p = 4 ∨ p = 5 := by omega
  rcases hh with rfl | rfl | rfl | rfl | rfl | rfl <;> simp only [pk, Nat.reduceMul, Nat.reducePow] <;> omega
theorem KN_or {s : Nat} (h : s < 2 ^ 63) : KN ||| lN s = lN (2 ^ 63 + s) := by
  have e : KN = lN (2 ^ 63 * 1) := by decide
  rw [e, fb_or_sumL 1 h]
/-- a pane's place, out of a long -/
def dcd (x : Int64) (k : Int32) : Int32 := (((x.toUInt64 >>> (((8 : Int32) * k).toInt64.toUInt64 &&& Int64.toUInt64 63)).toInt64) &&& (255 : Int64)).toInt32 - (1 : Int32)
theorem dcd_nat {n p : Nat} (hn : n < 2 ^ 64) (hp : p < 6) : dcd (lN n) (nI p) = nI (n / 2 ^ (8 * p) % 2 ^ 8) - 1 := by
  unfold dcd
  rw [show (8 : Int32) = nI 8 from rfl, nI_m, wb_shr hn (by omega), show (255 : Int64) = lN (2 ^ 8 - 1) from rfl]
  have h1 : n / 2 ^ (8 * p) < 2 ^ 64 := Nat.lt_of_le_of_lt (Nat.div_le_self _ _) hn
  rw [wb_mask h1 (by decide), lN_32]
  have := Nat.mod_lt (n / 2 ^ (8 * p)) (show 2 ^ 8 > 0 by decide)
  omega
theorem dcd_hi {a : Nat → Nat} (h : ∀ i, a i ≤ 64) {p : Nat} (hp : p < 6) : dcd (lN (pk a 6)) (nI p) = nI (a p) - 1 := by
  have h1 := pk_ltb h 6
  rw [dcd_nat (by omega) hp, (pk_dec h hp).1]
theorem dcd_lo {a : Nat → Nat} (h : ∀ i, a i ≤ 64) {p : Nat} (hp : p < 6) : dcd (KN ||| lN (pk a 6)) (nI p) = nI (a p) - 1 := by
  have h1 := pk_ltb h 6
  rw [KN_or (by omega), dcd_nat (by omega) hp, (pk_dec h hp).2]
def atT (c : Nat) (ch : Nat → Int32) (law : Law) (t : Nat) (N : hn) : Prop :=
  N.1 19 3 = nI t ∧ N.1 (c + 13) 0 = nI (t / 24) ∧ N.1 (c + 13) 1 = nI (t % 24) ∧ ∀ p, p < 12 → N.1 34 p = spF ch law t p
def yrP (ch : Nat → Int32) (law : Law) (N : hn) : Prop :=
  ∀ t, t < 1248 → N.2 35 (2 * t) &&& KN = 0 ∨ (N.2 35 (2 * t) = KN ||| lN (pk (aS ch law t) 6) ∧ N.2 35 (2 * t + 1) = lN (pk (fun p => aS ch law t (p + 6)) 6))
def litP (c : Nat) (ch : Nat → Int32) (law : Law) (N : hn) : Prop := yrP ch law N ∧ (N.1 19 3 = -1 ∨ ∃ t, t < 1248 ∧ atT c ch law t N)
theorem c8_1 {c : Nat} : c + 8 + 1 = c + 9 := rfl
theorem c8_2 {c : Nat} : c + 8 + 2 = c + 10 := rfl
theorem c8_3 {c : Nat} : c + 8 + 3 = c + 11 := rfl
theorem c8_4 {c : Nat} : c + 8 + 4 = c + 12 := rfl
theorem c8_5 {c : Nat} : c + 8 + 5 = c + 13 := rfl
theorem hasPlace_ok {c' c : Nat} {x y : Int32} {N : hn} : F_Chapel_hasPlace c' c x y N = some ((if x < 0 then 0 else if N.1 c 0 ≤ x then 0 else if y < 0 then 0 else if N.1 c 1 ≤ y then 0 else 1), N) := by
  unfold F_Chapel_hasPlace
  split
  · rfl
  · split
    · rfl
    · split
      · rfl
      · split <;> rfl
theorem lookAtPane_ok {c' v0 : Nat} {a b : Int32} {N : hn} : F_Laws_lookAtPane c' v0 a b N = some (hn_wI (hn_wI N (v0 + 5) 2 a) (v0 + 5) 3 b) := by
  simp only [F_Laws_lookAtPane, x_7_2, x_7_3, hg_T, hl_s, t_2, t_3]
/-- one pane's place is found -/
theorem shine_pane {c : Nat} (hc : isChap c) {ch : Nat → Int32} {law : Law} {N : hn} (hch : chOK ch) (hl : lawOK law) (h : chapP c ch law N) {t p g : Nat} {lo hi : Int64}
    (hd : lawV law 2 (facT t 0 0) = 0) (hf0 : N.1 (c + 13) 0 = nI (t / 24)) (hf1 : N.1 (c + 13) 1 = nI (t % 24)) (hp : p < nP ch) (hg : p < g) (hg2 : g ≤ 12) (K : Int32 → Nat → Int64 → Int64 → Int32 → Int32 → hn → Option hn) :
    ∃ N', B_Light_shine_2 c K (nI t) (c + 8) lo hi (nI g) (nI p) N = B_Light_shine_3 c K (nI t) (c + 8) lo hi (nI g) (nI p) (lN (spotN ch law t p)) N' ∧
      (∀ b, b ≠ c + 12 → b ≠ c + 13 → N'.1 b = N.1 b) ∧ N'.2 = N.2 ∧ N'.1 (c + 13) 0 = nI (t / 24) ∧ N'.1 (c + 13) 1 = nI (t % 24) := by
  have hcc : c = 5 ∨ c = 20 := hc
  have g1 : ¬ nI g ≤ nI p := nI_ge hg (by omega)
  have g2 : ¬ (12 : Int32) ≤ nI p := nI_ge (b := 12) (by omega) (by decide)
  have hix : hn_ix 12 (nI p) = true := ix_ok (by omega) (by decide)
  have hcp : (nI p).toNatClampNeg = p := nI_lt31 (by omega)
  obtain ⟨r1, r2, -⟩ := h.2.1 p hp
  obtain ⟨⟨w1, w2, w3⟩, ⟨d1, d2, d3⟩, -⟩ := hch
  let N1 : hn := hn_wI (hn_wI N (c + 13) 2 (ch (17 + 4 * p))) (c + 13) 3 (ch (18 + 4 * p))
  have n1o : ∀ b, b ≠ c + 13 → N1.1 b = N.1 b := fun b hb => by rw [show N1.1 b = _ from wI_o hb, wI_o hb]
  have h1 : chapP c ch law N1 := h.off hc (fun b _ _ => n1o b (by omega))
  have e0 : N1.1 (c + 13) 0 = nI (t / 24) := by rw [← hf0]; show (hn_wI _ _ _ _).1 _ _ = _; rw [wI_n (by omega), wI_n (by omega)]
  have e1 : N1.1 (c + 13) 1 = nI (t % 24) := by rw [← hf1]; show (hn_wI _ _ _ _).1 _ _ = _; rw [wI_n (by omega), wI_n (by omega)]
  have e2 : N1.1 (c + 13) 2 = ch (17 + 4 * p) := by show (hn_wI _ _ _ _).1 _ _ = _; rw [wI_n (by omega), wI_s]
  have e3 : N1.1 (c + 13) 3 = ch (18 + 4 * p) := wI_s
  have fc : ∀ k, k < 2 → ∀ (X : hn), X.1 (c + 13) = N1.1 (c + 13) → lawV law k (X.1 (c + 13)) = lawV law k (facT t (ch (17 + 4 * p)) (ch (18 + 4 * p))) := by
    intro k hk X hX
    apply lawV_cong hl (by omega)
    intro f hf
    have hf' : f < 4 := by
      have := hf.2; omega
    rw [hX]
    have : f = 0 ∨ f = 1 ∨ f = 2 ∨ f = 3 := by omega
    rcases this with rfl | rfl | rfl | rfl
    · rw [e0]; rfl
    · rw [e1]; rfl
    · rw [e2]; rfl
    · rw [e3]; rfl
  obtain ⟨N2, v1, o1⟩ := valueOf_ok (c' := c) (k := 0) hc (by decide) hl h1
  have h2 : chapP c ch law N2 := h1.off hc (fun b _ _ => o1.1 b (by omega))
  obtain ⟨N3, v2, o2⟩ := valueOf_ok (c' := c) (k := 1) hc (by decide) hl h2
  rw [fc 0 (by decide) N1 rfl] at v1
  have f2 : N2.1 (c + 13) = N1.1 (c + 13) := o1.1 _ (by omega)
  have f3 : N3.1 (c + 13) = N1.1 (c + 13) := (o2.1 _ (by omega)).trans f2
  rw [fc 1 (by decide) N2 f2] at v2
  have k0 : N3.1 c 0 = ch 0 := by rw [o2.1 _ (by omega), o1.1 _ (by omega), n1o _ (by omega)]; exact h.1 0 (by decide)
  have k1 : N3.1 c 1 = ch 1 := by rw [o2.1 _ (by omega), o1.1 _ (by omega), n1o _ (by omega)]; exact h.1 1 (by decide)
  have col : N1.1 (c + 4) p = ch (17 + 4 * p) := by rw [n1o _ (by omega)]; exact r1
  refine ⟨N3, ?_, ?_, ?_, ?_, ?_⟩
  · have v1' : F_Laws_valueOf c (c + 8) (135 : Int32) N1 = _ := v1
    have v2' : F_Laws_valueOf c (c + 8) (136 : Int32) N2 = _ := v2
    simp only [B_Light_shine_2, g1, g2, ↓reduceIte, hix, hg_T, hcp, lookAtPane_ok, hvN_s, r1, r2, c8_5]
    show hbN (F_Laws_valueOf c (c + 8) (135 : Int32) N1) _ = _
    rw [v1']
    simp only [hbN_s, hl_s]
    rw [show (hn_wI (hn_wI N (c + 13) 2 (ch (17 + 4 * p))) (c + 13) 3 (ch (18 + 4 * p))).1 (c + 4) p = ch (17 + 4 * p) from col, v2']
    simp only [hbN_s, hasPlace_ok, k0, k1]
    unfold spotN
    rw [if_pos hd]
    show _ = B_Light_shine_3 c K (nI t) (c + 8) lo hi (nI g) (nI p) (lN (if xS ch law t p < 0 then 0 else if ch 0 ≤ xS ch law t p then 0 else if yS ch law t p < 0 then 0 else if ch 1 ≤ yS ch law t p then 0 else (8 * (yS ch law t p) + xS ch law t p).toNatClampNeg + 1)) N3
    have ex : ch (17 + 4 * p) + lawV law 0 (facT t (ch (17 + 4 * p)) (ch (18 + 4 * p))) = xS ch law t p := rfl
    have ey : lawV law 1 (facT t (ch (17 + 4 * p)) (ch (18 + 4 * p))) = yS ch law t p := rfl
    rw [ex, ey]
    have z1 : ¬ (1 : Int32) = 0 := by decide
    have zl : (0 : Int64) = lN 0 := rfl
    by_cases q1 : xS ch law t p < 0
    · simp only [q1, ↓reduceIte, zl]
    · by_cases q2 : ch 0 ≤ xS ch law t p
      · simp only [q1, q2, ↓reduceIte, zl]
      · by_cases q3 : yS ch law t p < 0
        · simp only [q1, q2, q3, ↓reduceIte, zl]
        · by_cases q4 : ch 1 ≤ yS ch law t p
          · simp only [q1, q2, q3, q4, ↓reduceIte, zl]
          · simp only [q1, q2, q3, q4, ↓reduceIte, z1, F_Ps_placeOf, hbN_s]
            rw [w1] at q2
            rw [d1] at q4
            obtain ⟨x, hx, xe⟩ := i32_in q1 q2 (by omega)
            obtain ⟨y, hy, ye⟩ := i32_in q3 q4 (by omega)
            rw [xe, ye, show (8 : Int32) = nI 8 from rfl, show (1 : Int32) = nI 1 from rfl, nI_m, nI_m, nI_a, nI_a, nI_a, nI_lt31 (by omega), nI_64 (by omega), Nat.mul_comm y 8]
  · intro b b1 b2
    rw [o2.1 _ b1, o1.1 _ b1, n1o _ b2]
  · rw [o2.2, o1.2]; rfl
  · rw [f3, e0]
  · rw [f3, e1]
