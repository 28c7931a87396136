/-! BEST: the gains as numbers -/
theorem smS_nI {B : Nat} {f : Nat → Int32} (h : ∀ i, ∃ r, r ≤ B ∧ f i = nI r) : ∀ n, ∃ m, m ≤ n * B ∧ smS f n = nI m
  | 0 => ⟨0, by omega, rfl⟩
  | n + 1 => by
    obtain ⟨m, h1, h2⟩ := smS_nI h n
    obtain ⟨r, h3, h4⟩ := h n
    have e : (n + 1) * B = n * B + B := Nat.succ_mul n B
    refine ⟨m + r, by omega, ?_⟩
    rw [smS, h2, h4, nI_a]
theorem shS_nI {ch : Nat → Int32} {law : Law} {L : Nat → Bool} {t p : Nat} : ∃ r, r ≤ 999 ∧ shS ch law L t p = nI r := by
  have hr : ∀ a b, ∃ r, r ≤ 999 ∧ rentS law t a b = nI r := by
    intro a b
    unfold rentS
    by_cases h1 : lawV law 3 (facR t a b) < 0
    · rw [if_pos h1]; exact ⟨0, by omega, rfl⟩
    · rw [if_neg h1]
      by_cases h2 : 999 < lawV law 3 (facR t a b)
      · rw [if_pos h2]; exact ⟨999, by omega, rfl⟩
      · rw [if_neg h2]
        obtain ⟨k, hk, e⟩ := nI_ex (fa_of_nlt h1)
        refine ⟨k, ?_, e⟩
        rw [e, show (999 : Int32) = nI 999 from rfl, nI_lti (by decide) hk] at h2
        omega
  unfold shS
  split
  · obtain ⟨r, h1, h2⟩ := hr (spF ch law t p) (nI (fb_ct (grp ch law L t p) 12))
    have h3 := fb_ct_le (grp ch law L t p) 12
    refine ⟨r / fb_ct (grp ch law L t p) 12, Nat.le_trans (Nat.div_le_self _ _) h1, ?_⟩
    rw [h2, nI_d (by omega) (by omega)]
  · exact ⟨0, by omega, rfl⟩
theorem Yd_nI {ch : Nat → Int32} {law : Law} {st : Nat → Int32} {q : Nat} : ∃ r, r ≤ 1246752 ∧ Yd ch law st q = nI r := by
  obtain ⟨m, h1, h2⟩ := smS_nI (B := 999) (f := fun t => if gN 0 (t + 1) / 65536 % 8 < 0 then 0 else shS ch law (fun p => !bt (st 12) p) t q) (fun t => by
    rw [if_neg (by omega)]; exact shS_nI) 1248
  exact ⟨m, by omega, h2⟩
theorem wor_nI {ch : Nat → Int32} {law : Law} {st : Nat → Int32} {g q : Nat} : ∃ r, r ≤ 16207776 ∧ worS ch (Yd ch law st) g q = nI r := by
  obtain ⟨r, h1, h2⟩ := Yd_nI (ch := ch) (law := law) (st := st) (q := q)
  have h3 : popS ch g q ≤ 12 := fb_ct_le _ 12
  refine ⟨r * (1 + popS ch g q), ?_, ?_⟩
  · have := Nat.mul_le_mul h1 (show 1 + popS ch g q ≤ 13 by omega); omega
  · unfold worS
    rw [h2, show (1 : Int32) = nI 1 from rfl, nI_a, nI_m]
theorem nI_sub_le {a b : Nat} (ha : a < 1000000000) (hb : b < 1000000000) : (nI a - nI b ≤ 0) ↔ a ≤ b := by
  by_cases h : b ≤ a
  · rw [nI_s h, show (0 : Int32) = nI 0 from rfl, nI_lei (by omega) (by decide)]; omega
  · have e : nI a - nI b = -(nI (b - a)) := by rw [← nI_s (show a ≤ b by omega)]; exact (Int32.neg_sub ..).symm
    constructor
    · intro _; omega
    · intro _
      rw [e]
      apply Int32.le_iff_toInt_le.mpr
      rw [Int32.toInt_neg, nI_toInt (by omega)]
      have : (0 : Int32).toInt = 0 := by decide
      rw [this, Int.bmod_eq_of_le (by omega) (by omega)]
      omega
theorem gai_nI {ch : Nat → Int32} {law : Law} {st : Nat → Int32} {oa ob a b : Nat} : ∃ r, r ≤ 32415552 ∧ gaiS ch (Yd ch law st) oa ob a b = nI r := by
  obtain ⟨r1, a1, e1⟩ := wor_nI (ch := ch) (law := law) (st := st) (g := oa) (q := a)
  obtain ⟨r2, a2, e2⟩ := wor_nI (ch := ch) (law := law) (st := st) (g := oa) (q := b)
  obtain ⟨r3, a3, e3⟩ := wor_nI (ch := ch) (law := law) (st := st) (g := ob) (q := a)
  obtain ⟨r4, a4, e4⟩ := wor_nI (ch := ch) (law := law) (st := st) (g := ob) (q := b)
  unfold gaiS
  rw [e1, e2, e3, e4]
  simp only [nI_sub_le (show r2 < 1000000000 by omega) (show r1 < 1000000000 by omega), nI_sub_le (show r3 < 1000000000 by omega) (show r4 < 1000000000 by omega)]
  by_cases h1 : r2 ≤ r1
  · rw [if_pos h1]; exact ⟨0, by omega, rfl⟩
  · rw [if_neg h1]
    by_cases h2 : r3 ≤ r4
    · rw [if_pos h2]; exact ⟨0, by omega, rfl⟩
    · rw [if_neg h2, nI_s (by omega), nI_s (by omega), nI_a]
      exact ⟨r2 - r1 + (r3 - r4), by omega, rfl⟩
theorem gai_sym {ch : Nat → Int32} {Y : Nat → Int32} {oa ob a b : Nat} : gaiS ch Y oa ob a b = gaiS ch Y ob oa b a := by
  unfold gaiS
  split
  · split
    · rfl
    · rfl
  · split
    · rfl
    · exact Int32.add_comm _ _
/-- what two panes gain, as a number -/
def gG (ch : Nat → Int32) (law : Law) (st : Nat → Int32) (a b : Nat) : Nat := if st a = st b then 0 else (gaiS ch (Yd ch law st) (st a).toNatClampNeg (st b).toNatClampNeg a b).toNatClampNeg
theorem gG_sym {ch : Nat → Int32} {law : Law} {st : Nat → Int32} (a b : Nat) : gG ch law st a b = gG ch law st b a := by
  unfold gG
  by_cases h : st a = st b
  · rw [if_pos h, if_pos h.symm]
  · rw [if_neg h, if_neg (fun e => h e.symm), gai_sym]
theorem gG_le {ch : Nat → Int32} {law : Law} {st : Nat → Int32} (a b : Nat) : gG ch law st a b ≤ 32415552 := by
  unfold gG
  split
  · omega
  · obtain ⟨r, h1, h2⟩ := gai_nI (ch := ch) (law := law) (st := st) (oa := (st a).toNatClampNeg) (ob := (st b).toNatClampNeg) (a := a) (b := b)
    rw [h2, nI_lt31 (by omega)]; exact h1
theorem gG_nI {ch : Nat → Int32} {law : Law} {st : Nat → Int32} {a b oa ob : Nat} (hoa : oa < 6) (hob : ob < 6) (ea : st a = nI oa) (eb : st b = nI ob) (h : st a ≠ st b) : gaiS ch (Yd ch law st) oa ob a b = nI (gG ch law st a b) := by
  obtain ⟨r, h1, h2⟩ := gai_nI (ch := ch) (law := law) (st := st) (oa := oa) (ob := ob) (a := a) (b := b)
  unfold gG
  rw [if_neg h, ea, eb, nI_lt31 (show oa < 2147483648 by omega), nI_lt31 (show ob < 2147483648 by omega), h2, nI_lt31 (by omega)]
theorem gV_le {ch : Nat → Int32} {law : Law} {st : Nat → Int32} (n : Nat) (S : Nat → Bool) (hn : n ≤ 12) : Vf (gG ch law st) n S ≤ 388986624 := by
  have h := Vf_le (G := gG ch law st) (B := 32415552) gG_le n S
  have := Nat.mul_le_mul_right 32415552 hn
  omega
