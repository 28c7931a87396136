/-! answers by the yields: yields, rents, worth, gain -/
def Yd (ch : Nat → Int32) (law : Law) (st : Nat → Int32) (q : Nat) : Int32 := yldS ch law 0 0 (fun p => !bt (st 12) p) q
theorem RR.year {c : Nat} {ch : Nat → Int32} {law : Law} {N : hn} (h : RR c ch law N) : ∃ y N', F_Ps_yearNow c N = some (nI y, N') ∧ y < 17 ∧ RR c ch law N' ∧ offQ c N N' ∧ ∀ q, q < 12 → N'.1 44 (y * 12 + q) = Yd ch law (N.1 88) q := by
  obtain ⟨l, l1, l2⟩ := lit_ok h
  have hP := h.P.1
  obtain ⟨a1, a2, a3, ⟨a4, a5, a6⟩, -⟩ := id h
  obtain ⟨y, N', b1, b2, b3, b4, b5, b6, -⟩ := yearOf_ok a1 a2 a3 a4 a5 a6 (lit := l)
  refine ⟨y, N', ?_, b2, h.qP b6 b4 b5, b6, ?_⟩
  · simp only [F_Ps_yearNow, l1, hbN_e, b1]
  · intro q hq
    rw [b3 q hq]
    exact yldS_cong (fun p hp => by rw [l2 p (by omega)]; simp [hp]) a2
theorem RR.myear {c : Nat} {ch : Nat → Int32} {law : Law} {N : hn} (h : RR c ch law N) : ∃ N', F_Md_findYields c N = some N' ∧ RR c ch law N' ∧ offA N N' ∧ ∀ q, q < nP ch → N'.1 91 q = Yd ch law (N.1 88) q := by
  obtain ⟨a1, a2, a3, -, a7, -⟩ := id h
  obtain ⟨N', b1, b2, b3⟩ := findYields_ok (c := c) a2 a3 a7 h.own
  refine ⟨N', b1, h.qM (offM.ofA b2), b2, ?_⟩
  intro q hq
  rw [b3 q hq, litB_eq h]; rfl
theorem a_yields {c : Nat} {ch : Nat → Int32} {law : Law} {N : hn} (h : RR c ch law N) (v : Int32) : alike c ch law (F_Ps_yields c v) (F_Md_yields c v) N := by
  obtain ⟨hP, -, -, -, -, -, p4, -⟩ := h.P
  have z : ¬ (1 : Int32) = 0 := by decide
  by_cases hv : inR (nP ch) v
  · obtain ⟨p, hp, rfl⟩ := hv
    obtain ⟨y, N1, b1, b2, b3, b4, b5⟩ := h.year
    have hX := b3.thr (v := 0)
    obtain ⟨-, -, -, -, x4, -, -, -⟩ := hX.P
    obtain ⟨N2, d1, d2, d3, d4⟩ := hX.myear
    have o88 : (hn_wI N1 76 0 0).1 88 = N.1 88 := by rw [wI_o (by decide)]; exact b4.1 88 (by omega)
    have x1 : hn_ix 12 (nI p) = true := ix_ok (by omega) (by decide)
    have c1 : (nI p).toNatClampNeg = p := nI_lt31 (by omega)
    have e : (nI y * (12 : Int32)) + nI p = nI (y * 12 + p) := by rw [show (12 : Int32) = nI 12 from rfl, nI_m, nI_a]
    have x2 : hn_ix 204 (nI (y * 12 + p)) = true := ix_ok (by omega) (by decide)
    have c2 : (nI (y * 12 + p)).toNatClampNeg = y * 12 + p := nI_lt31 (by omega)
    refine ⟨Yd ch law (N.1 88) p, N1, N2, ?_, ?_, d2⟩
    · simp only [F_Ps_yields, psP_y (show nP ch < 2147483648 by omega) hp p4, hbN_e, z, ↓reduceIte, b1, F_Rents_given, e, x2, hg_T, c2, b5 p (by omega)]
    · simp only [F_Md_yields, hl_e, mdP_y (show nP ch < 2147483648 by omega) hp x4, hbN_e, z, ↓reduceIte, d1, hvN_e, x1, hg_T, c1, d4 p hp, o88]
  · have hX := h.thr (v := 0)
    obtain ⟨-, -, -, -, x4, -, -, -⟩ := hX.P
    refine ⟨-1, N, _, ?_, ?_, hX⟩
    · simp only [F_Ps_yields, psP_n (show nP ch < 2147483648 by omega) hv p4, hbN_e, ↓reduceIte]
    · simp only [F_Md_yields, hl_e, mdP_n (show nP ch < 2147483648 by omega) hv x4, hbN_e, ↓reduceIte]
/-- RENTS of a guild by given yields -/
def rnS (ch : Nat → Int32) (st : Nat → Int32) (Y : Nat → Int32) (g : Nat) : Int32 := smS (fun p => if st p = nI g then Y p else 0) (nP ch)
theorem rents_ps {c : Nat} {ch : Nat → Int32} {law : Law} {N : hn} (h : RR c ch law N) {y g : Nat} (hy : y < 17) (hg : g < 6) {Y : Nat → Int32} (hY : ∀ q, q < 12 → N.1 44 (y * 12 + q) = Y q) :
    F_Rents_givenBy c (nI y) (bitsF (fun p => decide (N.1 (36 + 1) p = nI g)) 12) N = some (rnS ch (N.1 88) Y g, N) := by
  have hP := h.P.1
  obtain ⟨-, -, b3, b4, -⟩ := h.hold
  rw [givenBy_ok hy, bitsF_own h (by omega)]
  congr 2
  unfold rnS
  rw [smS_ext (m := nP ch) hP (fun i h1 h2 => by rw [bt_bitsF (by omega) (by omega)]; simp; omega)]
  apply smS_cong
  intro i hi
  rw [bt_bitsF (by omega) (by omega), hY i (by omega)]
  simp [hi]
theorem rents_md {c : Nat} {ch : Nat → Int32} {law : Law} {N : hn} (h : RR c ch law N) {g : Nat} {Y : Nat → Int32} (hY : ∀ q, q < nP ch → N.1 91 q = Y q) : F_Md_rentsOf c (nI g) N = some (rnS ch (N.1 88) Y g, N) := by
  obtain ⟨hP, -, -, -, m4, -⟩ := h.P
  rw [rentsOf_ok hP m4]
  congr 2
  apply smS_cong
  intro i hi
  rw [hY i hi]
theorem a_rents {c : Nat} {ch : Nat → Int32} {law : Law} {N : hn} (h : RR c ch law N) (v : Int32) : alike c ch law (F_Ps_rents c v) (F_Md_rents c v) N := by
  obtain ⟨hP, hG, -, -, -, -, -, p3⟩ := h.P
  have z : ¬ (1 : Int32) = 0 := by decide
  by_cases hv : inR (nG ch) v
  · obtain ⟨g, hg, rfl⟩ := hv
    obtain ⟨y, N1, b1, b2, b3, b4, b5⟩ := h.year
    have hX := b3.thr (v := 0)
    obtain ⟨-, -, -, -, -, x3, -, -⟩ := hX.P
    obtain ⟨N2, d1, d2, d3, d4⟩ := hX.myear
    have o88 : N1.1 88 = N.1 88 := b4.1 88 (by omega)
    have o88' : (hn_wI N1 76 0 0).1 88 = N.1 88 := by rw [wI_o (by decide)]; exact o88
    have q88 : N2.1 88 = N.1 88 := by rw [d3.1 88 (by decide) (by decide) (by decide) (by decide)]; exact o88'
    rw [o88'] at d4
    have r1 := rents_ps b3 b2 (show g < 6 by omega) b5
    have r2 := rents_md d2 (g := g) d4
    rw [o88] at r1
    rw [q88] at r2
    refine ⟨rnS ch (N.1 88) (Yd ch law (N.1 88)) g, N1, N2, ?_, ?_, d2⟩
    · simp only [F_Ps_rents, psG_y (show nG ch < 2147483648 by omega) hg p3, hbN_e, z, ↓reduceIte, b1, panesOf_ok, r1]
    · simp only [F_Md_rents, hl_e, mdG_y (show nG ch < 2147483648 by omega) hg x3, hbN_e, z, ↓reduceIte, d1, hvN_e, r2]
  · have hX := h.thr (v := 0)
    obtain ⟨-, -, -, -, -, x3, -, -⟩ := hX.P
    refine ⟨-1, N, _, ?_, ?_, hX⟩
    · simp only [F_Ps_rents, psG_n (show nG ch < 2147483648 by omega) hv p3, hbN_e, ↓reduceIte]
    · simp only [F_Md_rents, hl_e, mdG_n (show nG ch < 2147483648 by omega) hv x3, hbN_e, ↓reduceIte]
/-! worth and gain -/
def popS (ch : Nat → Int32) (g p : Nat) : Nat := cntN ((ch (20 + 4 * p)).toNatClampNeg &&& (ch (5 + 2 * g)).toNatClampNeg) 12
def worS (ch : Nat → Int32) (Y : Nat → Int32) (g p : Nat) : Int32 := Y p * (1 + nI (popS ch g p))
theorem pop_nat {ch : Nat → Int32} (hch : chOK ch) {g p : Nat} (hg : g < nG ch) (hp : p < nP ch) : ∃ a b, a < 8 ∧ b < 8 ∧ ch (20 + 4 * p) = nI a ∧ ch (5 + 2 * g) = nI b ∧ popS ch g p = cntN (a &&& b) 12 ∧ (a &&& b) < 4096 := by
  obtain ⟨-, -, -, -, -, k1, k2⟩ := hch
  obtain ⟨-, -, -, ⟨a, ha, ea⟩⟩ := k1 p hp
  obtain ⟨⟨b, hb, eb⟩, -⟩ := k2 g hg
  refine ⟨a, b, ha, hb, ea, eb, ?_, ?_⟩
  · unfold popS; rw [ea, eb, nI_lt31 (by omega), nI_lt31 (by omega)]
  · have := Nat.and_le_left (n := a) (m := b); omega
theorem wor_ps {c : Nat} {ch : Nat → Int32} {law : Law} {N : hn} (h : RR c ch law N) {y g p : Nat} (hy : y < 17) (hg : g < nG ch) (hp : p < nP ch) {Y : Nat → Int32} (hY : ∀ q, q < 12 → N.1 44 (y * 12 + q) = Y q) :
    F_Rents_worthTo c c (nI y) (nI g) (nI p) N = some (worS ch Y g p, N) := by
  obtain ⟨hP, hG, -⟩ := h.P
  obtain ⟨-, a2, -, ⟨k1, -⟩, -⟩ := id h
  obtain ⟨a, b, ha, hb, ea, eb, ep, hab⟩ := pop_nat a2 hg hp
  have x1 : hn_ix 12 (nI p) = true := ix_ok (by omega) (by decide)
  have c1 : (nI p).toNatClampNeg = p := nI_lt31 (by omega)
  have x3 : hn_ix 6 (nI g) = true := ix_ok (by omega) (by decide)
  have c3 : (nI g).toNatClampNeg = g := nI_lt31 (by omega)
  have e : (nI y * (12 : Int32)) + nI p = nI (y * 12 + p) := by rw [show (12 : Int32) = nI 12 from rfl, nI_m, nI_a]
  have x2 : hn_ix 204 (nI (y * 12 + p)) = true := ix_ok (by omega) (by decide)
  have c2 : (nI (y * 12 + p)).toNatClampNeg = y * 12 + p := nI_lt31 (by omega)
  simp only [F_Rents_worthTo, F_Rents_given, e, x2, hg_T, c2, hbN_e, x1, c1, x3, c3, (k1.2.1 p hp).2.2, (k1.2.2.1 g hg).1, ea, eb, fa_and, bitCount_nat _ hab, hY p (by omega)]
  unfold worS
  rw [ep]
theorem wor_md {c : Nat} {ch : Nat → Int32} {law : Law} {N : hn} (h : RR c ch law N) {g p : Nat} (hg : g < nG ch) (hp : p < nP ch) {Y : Nat → Int32} (hY : ∀ q, q < nP ch → N.1 91 q = Y q) :
    F_Md_worthOf c (nI g) (nI p) N = some (worS ch Y g p, N) := by
  obtain ⟨hP, hG, -⟩ := h.P
  obtain ⟨-, a2, -, -, a7, -⟩ := id h
  obtain ⟨a, b, ha, hb, ea, eb, ep, hab⟩ := pop_nat a2 hg hp
  have x1 : hn_ix 12 (nI p) = true := ix_ok (by omega) (by decide)
  have c1 : (nI p).toNatClampNeg = p := nI_lt31 (by omega)
  have e : (5 : Int32) + ((2 : Int32) * nI g) = nI (5 + 2 * g) := by rw [show (5 : Int32) = nI 5 from rfl, show (2 : Int32) = nI 2 from rfl, nI_m, nI_a]
  have x2 : hn_ix 160 (nI (5 + 2 * g)) = true := ix_ok (by omega) (by decide)
  have c2 : (nI (5 + 2 * g)).toNatClampNeg = 5 + 2 * g := nI_lt31 (by omega)
  have hba : b &&& a < 4096 := by rw [Nat.and_comm]; exact hab
  simp only [F_Md_worthOf, x1, hg_T, e, x2, c2, paneOf_3 (show p < 12 by omega), hbN_e, a7.1 (5 + 2 * g) (by omega), a7.1 (20 + 4 * p) (by omega), ea, eb, fa_and, md_bits hba, c1, hY p hp]
  unfold worS
  rw [ep, Nat.and_comm]
theorem a_worth {c : Nat} {ch : Nat → Int32} {law : Law} {N : hn} (h : RR c ch law N) (v w : Int32) : alike c ch law (F_Ps_worth c v w) (F_Md_worth c v w) N := by
  obtain ⟨hP, hG, -, -, -, -, p4, p3⟩ := h.P
  have z : ¬ (1 : Int32) = 0 := by decide
  have hX := h.thr (v := 0)
  obtain ⟨-, -, -, -, x4, x3, -, -⟩ := hX.P
  by_cases hv : inR (nG ch) v
  · obtain ⟨g, hg, rfl⟩ := hv
    by_cases hw : inR (nP ch) w
    · obtain ⟨p, hp, rfl⟩ := hw
      obtain ⟨y, N1, b1, b2, b3, b4, b5⟩ := h.year
      have hX1 := b3.thr (v := 0)
      obtain ⟨-, -, -, -, y4, y3, -, -⟩ := hX1.P
      obtain ⟨N2, d1, d2, d3, d4⟩ := hX1.myear
      have o88' : (hn_wI N1 76 0 0).1 88 = N.1 88 := by rw [wI_o (by decide)]; exact b4.1 88 (by omega)
      rw [o88'] at d4
      refine ⟨worS ch (Yd ch law (N.1 88)) g p, N1, N2, ?_, ?_, d2⟩
      · simp only [F_Ps_worth, psG_y (show nG ch < 2147483648 by omega) hg p3, psP_y (show nP ch < 2147483648 by omega) hp p4, hbN_e, z, ↓reduceIte, b1, wor_ps b3 b2 hg hp b5]
      · simp only [F_Md_worth, hl_e, mdG_y (show nG ch < 2147483648 by omega) hg y3, mdP_y (show nP ch < 2147483648 by omega) hp y4, hbN_e, z, ↓reduceIte, d1, hvN_e, wor_md d2 hg hp d4]
    · refine ⟨-1, N, _, ?_, ?_, hX⟩
      · simp only [F_Ps_worth, psG_y (show nG ch < 2147483648 by omega) hg p3, psP_n (show nP ch < 2147483648 by omega) hw p4, hbN_e, z, ↓reduceIte]
      · simp only [F_Md_worth, hl_e, mdG_y (show nG ch < 2147483648 by omega) hg x3, mdP_n (show nP ch < 2147483648 by omega) hw x4, hbN_e, z, ↓reduceIte]
  · refine ⟨-1, N, _, ?_, ?_, hX⟩
    · simp only [F_Ps_worth, psG_n (show nG ch < 2147483648 by omega) hv p3, hbN_e, ↓reduceIte]
    · simp only [F_Md_worth, hl_e, mdG_n (show nG ch < 2147483648 by omega) hv x3, hbN_e, ↓reduceIte]
def gaiS (ch : Nat → Int32) (Y : Nat → Int32) (oa ob a b : Nat) : Int32 :=
  if worS ch Y oa b - worS ch Y oa a ≤ 0 then 0 else if worS ch Y ob a - worS ch Y ob b ≤ 0 then 0 else (worS ch Y oa b - worS ch Y oa a) + (worS ch Y ob a - worS ch Y ob b)
theorem gai_ps {c : Nat} {ch : Nat → Int32} {law : Law} {N : hn} (h : RR c ch law N) {y a b oa ob : Nat} (hy : y < 17) (ha : a < nP ch) (hb : b < nP ch) (hoa : oa < nG ch) (hob : ob < nG ch) (ea : N.1 88 a = nI oa) (eb : N.1 88 b = nI ob) {Y : Nat → Int32} (hY : ∀ q, q < 12 → N.1 44 (y * 12 + q) = Y q) :
    F_Rents_gainOf c c 36 (nI y) (nI a) (nI b) N = some (gaiS ch Y oa ob a b, N) := by
  obtain ⟨hP, hG, -⟩ := h.P
  obtain ⟨-, -, b3, -, -⟩ := h.hold
  have x1 : hn_ix 12 (nI a) = true := ix_ok (by omega) (by decide)
  have c1 : (nI a).toNatClampNeg = a := nI_lt31 (by omega)
  have x2 : hn_ix 12 (nI b) = true := ix_ok (by omega) (by decide)
  have c2 : (nI b).toNatClampNeg = b := nI_lt31 (by omega)
  simp only [F_Rents_gainOf, x1, x2, hg_T, c1, c2, (b3 a ha).1, (b3 b hb).1, ea, eb, hl_e, wor_ps h hy hoa ha hY, wor_ps h hy hoa hb hY, wor_ps h hy hob ha hY, wor_ps h hy hob hb hY, hbN_e]
  unfold gaiS
  split
  · rfl
  · split <;> rfl
theorem gai_md {c : Nat} {ch : Nat → Int32} {law : Law} {N : hn} (h : RR c ch law N) {a b oa ob : Nat} (ha : a < nP ch) (hb : b < nP ch) (hoa : oa < nG ch) (hob : ob < nG ch) (ea : N.1 88 a = nI oa) (eb : N.1 88 b = nI ob) {Y : Nat → Int32} (hY : ∀ q, q < nP ch → N.1 91 q = Y q) :
    F_Md_gainOf c (nI a) (nI b) N = some (gaiS ch Y oa ob a b, N) := by
  obtain ⟨hP, hG, -⟩ := h.P
  simp only [F_Md_gainOf, ownerOf_ok (show a < 1000 by omega), ownerOf_ok (show b < 1000 by omega), ea, eb, hl_e, wor_md h hoa ha hY, wor_md h hoa hb hY, wor_md h hob ha hY, wor_md h hob hb hY, hbN_e]
  unfold gaiS
  split
  · rfl
  · split <;> rfl
/-- which two may be exchanged -/
def unl (ch : Nat → Int32) (st : Nat → Int32) (v w : Int32) : Prop := ∃ a b, a < nP ch ∧ b < nP ch ∧ v = nI a ∧ w = nI b ∧ st a ≠ st b
theorem ps_unl_y {c : Nat} {ch : Nat → Int32} {law : Law} {N : hn} (h : RR c ch law N) {a b : Nat} (ha : a < nP ch) (hb : b < nP ch) (hab : N.1 88 a ≠ N.1 88 b) : F_Ps_canExchange c (nI a) (nI b) N = some (1, N) := by
  obtain ⟨hP, -, -, -, -, -, p4, -⟩ := h.P
  obtain ⟨-, -, b3, -, -⟩ := h.hold
  have z : ¬ (1 : Int32) = 0 := by decide
  have x1 : hn_ix 12 (nI a) = true := ix_ok (by omega) (by decide)
  have c1 : (nI a).toNatClampNeg = a := nI_lt31 (by omega)
  have x2 : hn_ix 12 (nI b) = true := ix_ok (by omega) (by decide)
  have c2 : (nI b).toNatClampNeg = b := nI_lt31 (by omega)
  simp only [F_Ps_canExchange, psP_y (show nP ch < 2147483648 by omega) ha p4, psP_y (show nP ch < 2147483648 by omega) hb p4, hbN_e, z, ↓reduceIte, x1, x2, hg_T, c1, c2, (b3 a ha).1, (b3 b hb).1, hab]
theorem ps_unl_n {c : Nat} {ch : Nat → Int32} {law : Law} {N : hn} (h : RR c ch law N) {v w : Int32} (hn : ¬ unl ch (N.1 88) v w) : F_Ps_canExchange c v w N = some (0, N) := by
  obtain ⟨hP, -, -, -, -, -, p4, -⟩ := h.P
  obtain ⟨-, -, b3, -, -⟩ := h.hold
  have z : ¬ (1 : Int32) = 0 := by decide
  by_cases hv : inR (nP ch) v
  · obtain ⟨a, ha, rfl⟩ := hv
    by_cases hw : inR (nP ch) w
    · obtain ⟨b, hb, rfl⟩ := hw
      have hab : N.1 88 a = N.1 88 b := by
        by_cases q : N.1 88 a = N.1 88 b
        · exact q
        · exact absurd ⟨a, b, ha, hb, rfl, rfl, q⟩ hn
      have x1 : hn_ix 12 (nI a) = true := ix_ok (by omega) (by decide)
      have c1 : (nI a).toNatClampNeg = a := nI_lt31 (by omega)
      have x2 : hn_ix 12 (nI b) = true := ix_ok (by omega) (by decide)
      have c2 : (nI b).toNatClampNeg = b := nI_lt31 (by omega)
      simp only [F_Ps_canExchange, psP_y (show nP ch < 2147483648 by omega) ha p4, psP_y (show nP ch < 2147483648 by omega) hb p4, hbN_e, z, ↓reduceIte, x1, x2, hg_T, c1, c2, (b3 a ha).1, (b3 b hb).1, hab]
    · simp only [F_Ps_canExchange, psP_y (show nP ch < 2147483648 by omega) ha p4, psP_n (show nP ch < 2147483648 by omega) hw p4, hbN_e, z, ↓reduceIte]
  · simp only [F_Ps_canExchange, psP_n (show nP ch < 2147483648 by omega) hv p4, hbN_e, ↓reduceIte]
theorem md_unl_y {c P : Nat} (hP : P ≤ 12) {N : hn} (m4 : N.1 82 4 = nI P) {a b : Nat} (ha : a < P) (hb : b < P) (hab : N.1 88 a ≠ N.1 88 b) : F_Md_areUnlike c (nI a) (nI b) N = some (1, N) := by
  have z : ¬ (1 : Int32) = 0 := by decide
  simp only [F_Md_areUnlike, mdP_y (show P < 2147483648 by omega) ha m4, mdP_y (show P < 2147483648 by omega) hb m4, hbN_e, z, ↓reduceIte, ownerOf_ok (show a < 1000 by omega), ownerOf_ok (show b < 1000 by omega), hab]
theorem md_unl_n {c : Nat} {ch : Nat → Int32} (hP : nP ch ≤ 12) {N : hn} (m4 : N.1 82 4 = nI (nP ch)) {v w : Int32} (hn : ¬ unl ch (N.1 88) v w) : F_Md_areUnlike c v w N = some (0, N) := by
  have z : ¬ (1 : Int32) = 0 := by decide
  by_cases hv : inR (nP ch) v
  · obtain ⟨a, ha, rfl⟩ := hv
    by_cases hw : inR (nP ch) w
    · obtain ⟨b, hb, rfl⟩ := hw
      have hab : N.1 88 a = N.1 88 b := by
        by_cases q : N.1 88 a = N.1 88 b
        · exact q
        · exact absurd ⟨a, b, ha, hb, rfl, rfl, q⟩ hn
      simp only [F_Md_areUnlike, mdP_y (show nP ch < 2147483648 by omega) ha m4, mdP_y (show nP ch < 2147483648 by omega) hb m4, hbN_e, z, ↓reduceIte, ownerOf_ok (show a < 1000 by omega), ownerOf_ok (show b < 1000 by omega), hab]
    · simp only [F_Md_areUnlike, mdP_y (show nP ch < 2147483648 by omega) ha m4, mdP_n (show nP ch < 2147483648 by omega) hw m4, hbN_e, z, ↓reduceIte]
  · simp only [F_Md_areUnlike, mdP_n (show nP ch < 2147483648 by omega) hv m4, hbN_e, ↓reduceIte]
theorem a_gain {c : Nat} {ch : Nat → Int32} {law : Law} {N : hn} (h : RR c ch law N) (v w : Int32) : alike c ch law (F_Ps_gain c v w) (F_Md_gain c v w) N := by
  obtain ⟨hP, hG, -⟩ := h.P
  have z : ¬ (1 : Int32) = 0 := by decide
  by_cases hu : unl ch (N.1 88) v w
  · obtain ⟨a, b, ha, hb, rfl, rfl, hab⟩ := hu
    obtain ⟨y, N1, b1, b2, b3, b4, b5⟩ := h.year
    have hX1 := b3.thr (v := 0)
    obtain ⟨-, -, -, -, y4, -, -, -⟩ := hX1.P
    obtain ⟨N2, d1, d2, d3, d4⟩ := hX1.myear
    have o88 : N1.1 88 = N.1 88 := b4.1 88 (by omega)
    have o88' : (hn_wI N1 76 0 0).1 88 = N.1 88 := by rw [wI_o (by decide)]; exact o88
    have q88 : N2.1 88 = N.1 88 := by rw [d3.1 88 (by decide) (by decide) (by decide) (by decide)]; exact o88'
    rw [o88'] at d4
    obtain ⟨oa, ho1, ea⟩ := h.own a ha
    obtain ⟨ob, ho2, eb⟩ := h.own b hb
    refine ⟨gaiS ch (Yd ch law (N.1 88)) oa ob a b, N1, N2, ?_, ?_, d2⟩
    · simp only [F_Ps_gain, ps_unl_y h ha hb hab, hbN_e, z, ↓reduceIte, b1, gai_ps b3 b2 ha hb ho1 ho2 (by rw [o88]; exact ea) (by rw [o88]; exact eb) b5]
    · simp only [F_Md_gain, hl_e, md_unl_y hP y4 ha hb (by rw [o88']; exact hab), hbN_e, z, ↓reduceIte, d1, hvN_e, gai_md d2 ha hb ho1 ho2 (by rw [q88]; exact ea) (by rw [q88]; exact eb) d4]
  · have hX := h.thr (v := 0)
    obtain ⟨-, -, -, -, x4, -, -, -⟩ := hX.P
    refine ⟨-1, N, _, ?_, ?_, hX⟩
    · simp only [F_Ps_gain, ps_unl_n h hu, hbN_e, ↓reduceIte]
    · simp only [F_Md_gain, hl_e, md_unl_n hP x4 (by rw [wI_o (by decide)]; exact hu), hbN_e, ↓reduceIte]
