/-! what both sides ask ahead of an answer -/
def inR (n : Nat) (v : Int32) : Prop := ∃ g, g < n ∧ v = nI g
theorem inR_n {n : Nat} (hb : n < 2147483648) {v : Int32} (h : ¬ inR n v) : v < 0 ∨ (¬ v < 0 ∧ nI n ≤ v) := by
  by_cases h1 : v < 0
  · exact Or.inl h1
  · by_cases h2 : nI n ≤ v
    · exact Or.inr ⟨h1, h2⟩
    · exact absurd (i32_in h1 h2 hb) h
theorem psG_y {c n g : Nat} (hb : n < 2147483648) (hg : g < n) {N : hn} (e : N.1 c 3 = nI n) : F_Ps_isGuild c (nI g) N = some (1, N) := by
  simp only [F_Ps_isGuild, nI_nn (show g < 2147483648 by omega), e, nI_ge hg (by omega), ↓reduceIte]
theorem psG_n {c n : Nat} (hb : n < 2147483648) {v : Int32} (h : ¬ inR n v) {N : hn} (e : N.1 c 3 = nI n) : F_Ps_isGuild c v N = some (0, N) := by
  rcases inR_n hb h with q | ⟨q1, q2⟩
  · simp only [F_Ps_isGuild, q, ↓reduceIte]
  · simp only [F_Ps_isGuild, q1, e, q2, ↓reduceIte]
theorem psP_y {c n g : Nat} (hb : n < 2147483648) (hg : g < n) {N : hn} (e : N.1 c 4 = nI n) : F_Ps_isPane c (nI g) N = some (1, N) := by
  simp only [F_Ps_isPane, nI_nn (show g < 2147483648 by omega), e, nI_ge hg (by omega), ↓reduceIte]
theorem psP_n {c n : Nat} (hb : n < 2147483648) {v : Int32} (h : ¬ inR n v) {N : hn} (e : N.1 c 4 = nI n) : F_Ps_isPane c v N = some (0, N) := by
  rcases inR_n hb h with q | ⟨q1, q2⟩
  · simp only [F_Ps_isPane, q, ↓reduceIte]
  · simp only [F_Ps_isPane, q1, e, q2, ↓reduceIte]
theorem mdG_y {c n g : Nat} (hb : n < 2147483648) (hg : g < n) {N : hn} (e : N.1 82 3 = nI n) : F_Md_isGuild c (nI g) N = some (1, N) := by
  simp only [F_Md_isGuild, nI_nn (show g < 2147483648 by omega), guilds_ok, hbN_e, e, nI_ge hg (by omega), ↓reduceIte]
theorem mdG_n {c n : Nat} (hb : n < 2147483648) {v : Int32} (h : ¬ inR n v) {N : hn} (e : N.1 82 3 = nI n) : F_Md_isGuild c v N = some (0, N) := by
  rcases inR_n hb h with q | ⟨q1, q2⟩
  · simp only [F_Md_isGuild, q, ↓reduceIte]
  · simp only [F_Md_isGuild, q1, guilds_ok, hbN_e, e, q2, ↓reduceIte]
theorem mdP_y {c n g : Nat} (hb : n < 2147483648) (hg : g < n) {N : hn} (e : N.1 82 4 = nI n) : F_Md_isPane c (nI g) N = some (1, N) := by
  simp only [F_Md_isPane, nI_nn (show g < 2147483648 by omega), panes_ok, hbN_e, e, nI_ge hg (by omega), ↓reduceIte]
theorem mdP_n {c n : Nat} (hb : n < 2147483648) {v : Int32} (h : ¬ inR n v) {N : hn} (e : N.1 82 4 = nI n) : F_Md_isPane c v N = some (0, N) := by
  rcases inR_n hb h with q | ⟨q1, q2⟩
  · simp only [F_Md_isPane, q, ↓reduceIte]
  · simp only [F_Md_isPane, q1, panes_ok, hbN_e, e, q2, ↓reduceIte]
theorem mdW_y {c k g : Nat} (hk : k < 2147483647) (hg : g < k + 1) {N : hn} : F_Md_within c (nI g) (0 : Int32) (nI k) N = some (1, N) := by
  have h2 : ¬ nI k < nI g := nI_nlt (by omega) (by omega)
  simp only [F_Md_within, nI_nn (show g < 2147483648 by omega), h2, ↓reduceIte]
theorem mdW_n {c k : Nat} (hk : k < 2147483647) {v : Int32} (h : ¬ inR (k + 1) v) {N : hn} : F_Md_within c v (0 : Int32) (nI k) N = some (0, N) := by
  rcases inR_n (by omega) h with q | ⟨q1, q2⟩
  · simp only [F_Md_within, q, ↓reduceIte]
  · have q3 : nI k < v := by
      rw [fa_lt, nI_toInt (by omega)]
      rw [fa_le, nI_toInt (by omega)] at q2
      omega
    simp only [F_Md_within, q1, q3, ↓reduceIte]
theorem psT_y {c w d : Nat} (hw : w < 52) (hd : d < 24) {N : hn} : F_Ps_isTime c (nI w) (nI d) N = some (1, N) := by
  have g1 : ¬ (52 : Int32) ≤ nI w := nI_ge (b := 52) hw (by decide)
  have g2 : ¬ (24 : Int32) ≤ nI d := nI_ge (b := 24) hd (by decide)
  simp only [F_Ps_isTime, nI_nn (show w < 2147483648 by omega), nI_nn (show d < 2147483648 by omega), g1, g2, ↓reduceIte]
theorem psT_n {c : Nat} {w d : Int32} (h : ¬ (inR 52 w ∧ inR 24 d)) {N : hn} : F_Ps_isTime c w d N = some (0, N) := by
  by_cases h1 : inR 52 w
  · obtain ⟨x, hx, rfl⟩ := h1
    have g1 : ¬ (52 : Int32) ≤ nI x := nI_ge (b := 52) hx (by decide)
    rcases inR_n (n := 24) (by decide) (fun q => h ⟨⟨x, hx, rfl⟩, q⟩) with q | ⟨q1, q2⟩
    · simp only [F_Ps_isTime, nI_nn (show x < 2147483648 by omega), g1, q, ↓reduceIte]
    · have q3 : (24 : Int32) ≤ d := q2
      simp only [F_Ps_isTime, nI_nn (show x < 2147483648 by omega), g1, q1, q3, ↓reduceIte]
  · rcases inR_n (n := 52) (by decide) h1 with q | ⟨q1, q2⟩
    · simp only [F_Ps_isTime, q, ↓reduceIte]
    · have q3 : (52 : Int32) ≤ w := q2
      simp only [F_Ps_isTime, q1, q3, ↓reduceIte]
theorem mdT_y {c w d : Nat} (hw : w < 52) (hd : d < 24) {N : hn} : F_Md_isTime c (nI w) (nI d) N = some (1, N) := by
  have e1 : F_Md_within c (nI w) (0 : Int32) (51 : Int32) N = some (1, N) := mdW_y (k := 51) (by decide) hw
  have e2 : F_Md_within c (nI d) (0 : Int32) (23 : Int32) N = some (1, N) := mdW_y (k := 23) (by decide) hd
  have z : ¬ (1 : Int32) = 0 := by decide
  simp only [F_Md_isTime, e1, e2, hbN_e, z, ↓reduceIte]
theorem mdT_n {c : Nat} {w d : Int32} (h : ¬ (inR 52 w ∧ inR 24 d)) {N : hn} : F_Md_isTime c w d N = some (0, N) := by
  have z : ¬ (1 : Int32) = 0 := by decide
  by_cases h1 : inR 52 w
  · obtain ⟨x, hx, rfl⟩ := h1
    have e1 : F_Md_within c (nI x) (0 : Int32) (51 : Int32) N = some (1, N) := mdW_y (k := 51) (by decide) hx
    have e2 : F_Md_within c d (0 : Int32) (23 : Int32) N = some (0, N) := mdW_n (k := 23) (by decide) (fun q => h ⟨⟨x, hx, rfl⟩, q⟩)
    simp only [F_Md_isTime, e1, e2, hbN_e, z, ↓reduceIte]
  · have e1 : F_Md_within c w (0 : Int32) (51 : Int32) N = some (0, N) := mdW_n (k := 51) (by decide) h1
    simp only [F_Md_isTime, e1, hbN_e, ↓reduceIte]
theorem psO_y {c' c W D x y : Nat} (hW : W < 2147483648) (hD : D < 2147483648) (hx : x < W) (hy : y < D) {N : hn} (e0 : N.1 c 0 = nI W) (e1 : N.1 c 1 = nI D) : F_Chapel_hasPlace c' c (nI x) (nI y) N = some (1, N) := by
  rw [hasPlace_ok, e0, e1]
  simp only [nI_nn (show x < 2147483648 by omega), nI_nn (show y < 2147483648 by omega), nI_ge hx (by omega), nI_ge hy (by omega), ↓reduceIte]
theorem psO_n {c' c W D : Nat} (hW : W < 2147483648) (hD : D < 2147483648) {x y : Int32} (h : ¬ (inR W x ∧ inR D y)) {N : hn} (e0 : N.1 c 0 = nI W) (e1 : N.1 c 1 = nI D) : F_Chapel_hasPlace c' c x y N = some (0, N) := by
  rw [hasPlace_ok, e0, e1]
  by_cases h1 : inR W x
  · obtain ⟨a, ha, rfl⟩ := h1
    rcases inR_n hD (fun q => h ⟨⟨a, ha, rfl⟩, q⟩) with q | ⟨q1, q2⟩
    · simp only [nI_nn (show a < 2147483648 by omega), nI_ge ha (by omega), q, ↓reduceIte]
    · simp only [nI_nn (show a < 2147483648 by omega), nI_ge ha (by omega), q1, q2, ↓reduceIte]
  · rcases inR_n hW h1 with q | ⟨q1, q2⟩
    · simp only [q, ↓reduceIte]
    · simp only [q1, q2, ↓reduceIte]
theorem mdO_y {c W D x y : Nat} (hW : W < 2147483648) (hD : D < 2147483648) (hx : x < W) (hy : y < D) {N : hn} (e0 : N.1 82 0 = nI W) (e1 : N.1 82 1 = nI D) : F_Md_isOn c (nI x) (nI y) N = some (1, N) := by
  rw [isOn_ok, e0, e1]
  simp only [nI_nn (show x < 2147483648 by omega), nI_nn (show y < 2147483648 by omega), nI_ge hx (by omega), nI_ge hy (by omega), ↓reduceIte]
theorem mdO_n {c W D : Nat} (hW : W < 2147483648) (hD : D < 2147483648) {x y : Int32} (h : ¬ (inR W x ∧ inR D y)) {N : hn} (e0 : N.1 82 0 = nI W) (e1 : N.1 82 1 = nI D) : F_Md_isOn c x y N = some (0, N) := by
  rw [isOn_ok, e0, e1]
  by_cases h1 : inR W x
  · obtain ⟨a, ha, rfl⟩ := h1
    rcases inR_n hD (fun q => h ⟨⟨a, ha, rfl⟩, q⟩) with q | ⟨q1, q2⟩
    · simp only [nI_nn (show a < 2147483648 by omega), nI_ge ha (by omega), q, ↓reduceIte]
    · simp only [nI_nn (show a < 2147483648 by omega), nI_ge ha (by omega), q1, q2, ↓reduceIte]
  · rcases inR_n hW h1 with q | ⟨q1, q2⟩
    · simp only [q, ↓reduceIte]
    · simp only [q1, q2, ↓reduceIte]
theorem RR.F {c : Nat} {ch : Nat → Int32} {law : Law} {N : hn} (h : RR c ch law N) : nW ch ≤ 8 ∧ nD ch ≤ 8 ∧ N.1 c 0 = nI (nW ch) ∧ N.1 c 1 = nI (nD ch) ∧ N.1 82 0 = nI (nW ch) ∧ N.1 82 1 = nI (nD ch) ∧ ch 0 = nI (nW ch) ∧ ch 1 = nI (nD ch) := by
  obtain ⟨-, ⟨⟨w1, -, w2⟩, ⟨d1, -, d2⟩, -⟩, -, ⟨b1, -⟩, a7, -⟩ := h
  exact ⟨w2, d2, by rw [b1.1 0 (by decide), w1], by rw [b1.1 1 (by decide), d1], by rw [a7.1 0 (by decide), w1], by rw [a7.1 1 (by decide), d1], w1, d1⟩
theorem psBk {c p : Nat} (hp : p < 32) {N : hn} : F_Hold_isBroken c 36 (nI p) N = some ((if bt (N.1 36 1) p then 1 else 0), N) := by
  simp only [F_Hold_isBroken, bt_sh hp]
  split <;> rfl
theorem RR.hold {c : Nat} {ch : Nat → Int32} {law : Law} {N : hn} (h : RR c ch law N) : N.1 36 5 = nI (nP ch) ∧ N.1 36 1 = N.1 88 12 ∧ (∀ p, p < nP ch → N.1 (36 + 1) p = N.1 88 p ∧ ∃ o, o < nG ch ∧ N.1 88 p = nI o) ∧ (∀ p, nP ch ≤ p → p < 12 → N.1 (36 + 1) p = -1) ∧ (∀ i, nP ch ≤ i → i < 32 → bt (N.1 88 12) i = false) := by
  obtain ⟨-, -, -, -, -, ⟨b1, b2, b3, b4, b5, b6⟩, -⟩ := h
  refine ⟨b1, by rw [b2], fun p hp => ?_, b5, fun i h1 h2 => ?_⟩
  · have := b4 p hp; rwa [Nat.zero_add] at this
  · have := b3 i h1 h2; rwa [Nat.zero_add] at this
/-- both answer alike, and the relation stays -/
def alike (c : Nat) (ch : Nat → Int32) (law : Law) (A B : hn → Option (Int32 × hn)) (N : hn) : Prop := ∃ r N1 N2, A N = some (r, N1) ∧ B N1 = some (r, N2) ∧ RR c ch law N2
theorem RR.thr {c : Nat} {ch : Nat → Int32} {law : Law} {N : hn} (h : RR c ch law N) {v : Int32} : RR c ch law (hn_wI N 76 0 v) := h.qM offM.thr
theorem guild_set {c P g : Nat} {ch : Nat → Int32} (hP : P ≤ 12) {w : Int32} (hw : ¬ w < 2) {N : hn} (h4 : N.1 82 4 = nI P) : F_Md_guild_1 c hN (nI g) w (0 : Int32) (0 : Int32) N = some (bitsF (fun p => decide (N.1 88 p = nI g)) P, N) := by
  have hw2 : (2 : Int32) ≤ w := fa_of_nlt hw
  refine it_wp (B := B_Md_guild_1 c) (z := fun _ _ _ _ _ => none) (fun K k (s : Int32) => K (nI g) w s (nI k) N) P (fun k s => s = bitsF (fun p => decide (N.1 88 p = nI g)) k)
    (Q := fun x => x = some (bitsF (fun p => decide (N.1 88 p = nI g)) P, N)) ?_ ?_ (n := hN) (k := 0) (s := 0) (by omega) (hN_big (by omega)) rfl
  · intro K s hs
    have g : nI P ≤ nI P := Int32.le_refl _
    simp only [B_Md_guild_1, panes_ok, hbN_e, h4, g, hw2, ↓reduceIte, hs]
  · intro K k s hk hs
    right
    refine ⟨_, rfl, ?_⟩
    have g1 : ¬ nI P ≤ nI k := nI_ge hk (by omega)
    simp only [B_Md_guild_1, B_Md_guild_2, panes_ok, hbN_e, h4, g1, ↓reduceIte, ownerOf_ok (show k < 1000 by omega), hl_e, bitsF, hs, ← nI_succ]
    by_cases q : N.1 88 k = nI g
    · simp only [q, ↓reduceIte, decide_true]
    · simp [q, or_0]
theorem guild_lo {c P g w : Nat} (hP : P ≤ 12) (hg : g < 6) (hw : w < 2) {N : hn} (h4 : N.1 82 4 = nI P) : F_Md_guild_1 c hN (nI g) (nI w) (0 : Int32) (0 : Int32) N = some (N.1 82 (5 + 2 * g + w), N) := by
  have hw2 : ¬ (2 : Int32) ≤ nI w := nI_ge (b := 2) hw (by decide)
  have e : ((5 : Int32) + ((2 : Int32) * nI g)) + nI w = nI (5 + 2 * g + w) := by
    rw [show (5 : Int32) = nI 5 from rfl, show (2 : Int32) = nI 2 from rfl, nI_m, nI_a, nI_a]
  refine it_wp (B := B_Md_guild_1 c) (z := fun _ _ _ _ _ => none) (fun K k (s : Int32) => K (nI g) (nI w) s (nI k) N) P (fun k s => True)
    (Q := fun x => x = some (N.1 82 (5 + 2 * g + w), N)) ?_ ?_ (n := hN) (k := 0) (s := 0) (by omega) (hN_big (by omega)) trivial
  · intro K s hs
    have g1 : nI P ≤ nI P := Int32.le_refl _
    simp only [B_Md_guild_1, panes_ok, hbN_e, h4, g1, hw2, ↓reduceIte, e, ix_ok (show 5 + 2 * g + w < 160 by omega) (by decide), hg_T, nI_lt31 (show 5 + 2 * g + w < 2147483648 by omega)]
  · intro K k s hk hs
    right
    have g1 : ¬ nI P ≤ nI k := nI_ge hk (by omega)
    by_cases q : N.1 88 k = nI g
    · refine ⟨s ||| ((1 : Int32) <<< (nI k &&& 31)), trivial, ?_⟩
      simp only [B_Md_guild_1, B_Md_guild_2, panes_ok, hbN_e, h4, g1, ↓reduceIte, ownerOf_ok (show k < 1000 by omega), hl_e, q, ← nI_succ]
    · refine ⟨s ||| 0, trivial, ?_⟩
      simp only [B_Md_guild_1, B_Md_guild_2, panes_ok, hbN_e, h4, g1, ↓reduceIte, ownerOf_ok (show k < 1000 by omega), hl_e, q, ← nI_succ]
theorem bitsF_own {c : Nat} {ch : Nat → Int32} {law : Law} {N : hn} (h : RR c ch law N) {g : Nat} (hg : g < 2147483648) : bitsF (fun p => decide (N.1 (36 + 1) p = nI g)) 12 = bitsF (fun p => decide (N.1 88 p = nI g)) (nP ch) := by
  obtain ⟨-, -, b3, b4, -⟩ := h.hold
  rw [bitsF_ext (m := nP ch) h.P.1 (fun i h1 h2 => by rw [b4 i h1 h2]; simp [Ne.symm (nI_nm hg)])]
  exact bitsF_cong (fun i hi => by rw [(b3 i hi).1])
theorem a_guild {c : Nat} {ch : Nat → Int32} {law : Law} {N : hn} (h : RR c ch law N) (v w : Int32) : alike c ch law (F_Ps_guild c v w) (F_Md_guild c v w) N := by
  obtain ⟨hP, hG, -, -, m4, m3, p4, p3⟩ := h.P
  have hX := h.thr (v := 0)
  obtain ⟨-, -, -, -, x4, x3, -, -⟩ := hX.P
  have z : ¬ (1 : Int32) = 0 := by decide
  by_cases hv : inR (nG ch) v
  · obtain ⟨g, hg, rfl⟩ := hv
    have x1 : hn_ix 6 (nI g) = true := ix_ok (by omega) (by decide)
    have c1 : (nI g).toNatClampNeg = g := nI_lt31 (by omega)
    obtain ⟨-, -, -, ⟨b1, -⟩, a7, -⟩ := id h
    by_cases hw : inR 3 w
    · obtain ⟨k, hk, rfl⟩ := hw
      have ew : F_Md_within c (nI k) (0 : Int32) (2 : Int32) (hn_wI N 76 0 0) = some (1, _) := mdW_y (k := 2) (by decide) hk
      have : k = 0 ∨ k = 1 ∨ k = 2 := by omega
      rcases this with rfl | rfl | rfl
      · refine ⟨ch (5 + 2 * g), N, _, ?_, ?_, hX⟩
        · simp only [F_Ps_guild, psG_y (show nG ch < 2147483648 by omega) hg p3, hbN_e, z, ↓reduceIte, show nI 0 = (0 : Int32) from rfl, x1, hg_T, c1, (b1.2.2.1 g hg).1]
        · simp only [F_Md_guild, hl_e, mdG_y (show nG ch < 2147483648 by omega) hg x3, hbN_e, z, ↓reduceIte, ew, guild_lo hP (show g < 6 by omega) (show 0 < 2 by omega) x4]
          rw [Nat.add_zero, wI_o (by decide), a7.1 _ (by omega)]
      · refine ⟨ch (6 + 2 * g), N, _, ?_, ?_, hX⟩
        · simp only [F_Ps_guild, psG_y (show nG ch < 2147483648 by omega) hg p3, hbN_e, z, ↓reduceIte, show nI 1 = (1 : Int32) from rfl, x1, hg_T, c1, (b1.2.2.1 g hg).2]
        · simp only [F_Md_guild, hl_e, mdG_y (show nG ch < 2147483648 by omega) hg x3, hbN_e, z, ↓reduceIte, ew, guild_lo hP (show g < 6 by omega) (show 1 < 2 by omega) x4]
          rw [show 5 + 2 * g + 1 = 6 + 2 * g by omega, wI_o (by decide), a7.1 _ (by omega)]
      · refine ⟨bitsF (fun p => decide (N.1 88 p = nI g)) (nP ch), N, _, ?_, ?_, hX⟩
        · have z2 : ¬ nI 2 = (0 : Int32) := by decide
          have z3 : ¬ nI 2 = (1 : Int32) := by decide
          have z4 : nI 2 = (2 : Int32) := rfl
          simp only [F_Ps_guild, psG_y (show nG ch < 2147483648 by omega) hg p3, hbN_e, z, ↓reduceIte, z2, z3, panesOf_ok, bitsF_own h (show g < 2147483648 by omega)]
          rw [if_pos z4]
        · simp only [F_Md_guild, hl_e, mdG_y (show nG ch < 2147483648 by omega) hg x3, hbN_e, z, ↓reduceIte, ew, guild_set (ch := ch) hP (show ¬ nI 2 < 2 by decide) x4]
          rfl
    · have ew : F_Md_within c w (0 : Int32) (2 : Int32) (hn_wI N 76 0 0) = some (0, _) := mdW_n (k := 2) (by decide) hw
      have w0 : ¬ w = 0 := fun e => hw ⟨0, by decide, e⟩
      have w1 : ¬ w = 1 := fun e => hw ⟨1, by decide, e⟩
      have w2 : ¬ w = 2 := fun e => hw ⟨2, by decide, e⟩
      refine ⟨-1, N, _, ?_, ?_, hX⟩
      · simp only [F_Ps_guild, psG_y (show nG ch < 2147483648 by omega) hg p3, hbN_e, z, ↓reduceIte, w0, w1, w2]
      · simp only [F_Md_guild, hl_e, mdG_y (show nG ch < 2147483648 by omega) hg x3, hbN_e, z, ↓reduceIte, ew]
  · refine ⟨-1, N, _, ?_, ?_, hX⟩
    · simp only [F_Ps_guild, psG_n (show nG ch < 2147483648 by omega) hv p3, hbN_e, ↓reduceIte]
    · simp only [F_Md_guild, hl_e, mdG_n (show nG ch < 2147483648 by omega) hv x3, hbN_e, ↓reduceIte]
