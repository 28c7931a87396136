/-! answers: fallen, falls -/
def anyF (p : Nat → Bool) : Nat → Bool
  | 0 => false
  | n + 1 => anyF p n || p n
theorem anyF_iff {p : Nat → Bool} : ∀ {n : Nat}, anyF p n = true ↔ ∃ i, i < n ∧ p i = true
  | 0 => by simp [anyF]
  | n + 1 => by
    rw [anyF, Bool.or_eq_true, anyF_iff]
    constructor
    · rintro (⟨i, h1, h2⟩ | h)
      · exact ⟨i, by omega, h2⟩
      · exact ⟨n, by omega, h⟩
    · rintro ⟨i, h1, h2⟩
      by_cases e : i = n
      · subst e; exact Or.inr h2
      · exact Or.inl ⟨i, by omega, h2⟩
def gvS (ch : Nat → Int32) (st : Nat → Int32) (g : Nat) : Bool := anyF (fun p => decide (st p = nI g) && !bt (st 12) p) (nP ch)
def litF (st : Nat → Int32) (ra : Nat → Nat) (p : Nat) : Bool := !bt (st 12) p && decide (ra (st p).toNatClampNeg = 0)
def YF (ch : Nat → Int32) (law : Law) (st : Nat → Int32) (ra : Nat → Nat) (p : Nat) : Int32 := yldS ch law 0 0 (litF st ra) p
/-- who falls in a round -/
def fnS (ch : Nat → Int32) (law : Law) (st : Nat → Int32) (ra : Nat → Nat) (g : Nat) : Bool := decide (ra g = 0) && gvS ch st g && !decide (ch (6 + 2 * g) ≤ rnS ch st (YF ch law st ra) g)
/-- in which round each has fallen, behind n rounds -/
def raS (ch : Nat → Int32) (law : Law) (st : Nat → Int32) : Nat → Nat → Nat
  | 0, _ => 0
  | n + 1, g => if g < nG ch then (if fnS ch law st (raS ch law st n) g then n + 1 else raS ch law st n g) else 0
theorem raS_out {ch : Nat → Int32} {law : Law} {st : Nat → Int32} {n g : Nat} (h : nG ch ≤ g) : raS ch law st n g = 0 := by
  cases n with
  | zero => rfl
  | succ n => rw [raS, if_neg (by omega)]
theorem raS_le {ch : Nat → Int32} {law : Law} {st : Nat → Int32} : ∀ n g, raS ch law st n g ≤ n
  | 0, _ => Nat.le_refl _
  | n + 1, g => by
    have := raS_le (ch := ch) (law := law) (st := st) n g
    rw [raS]
    split
    · split <;> omega
    · omega
theorem raS_stable {ch : Nat → Int32} {law : Law} {st : Nat → Int32} {n : Nat} (h : raS ch law st (n + 1) = raS ch law st n) : ∀ k, raS ch law st (n + k) = raS ch law st n
  | 0 => rfl
  | k + 1 => by
    have ih := raS_stable h k
    have nof : ∀ g, g < nG ch → fnS ch law st (raS ch law st n) g = false := by
      intro g hg
      by_cases e : fnS ch law st (raS ch law st n) g = true
      · have h1 := congrFun h g
        rw [raS, if_pos hg, if_pos e] at h1
        have := raS_le (ch := ch) (law := law) (st := st) n g
        omega
      · simpa using e
    funext g
    rw [show n + (k + 1) = (n + k) + 1 by omega, raS, ih]
    by_cases hg : g < nG ch
    · rw [if_pos hg, nof g hg]; simp
    · rw [if_neg hg, raS_out (by omega)]
/-- how many have fallen -/
def rcS (ch : Nat → Int32) (law : Law) (st : Nat → Int32) (n : Nat) : Nat := fb_ct (fun g => !decide (raS ch law st n g = 0)) (nG ch)
theorem rc_grow {ch : Nat → Int32} {law : Law} {st : Nat → Int32} {n g : Nat} (hg : g < nG ch) (hf : fnS ch law st (raS ch law st n) g = true) : rcS ch law st n + 1 ≤ rcS ch law st (n + 1) := by
  unfold rcS
  have z : raS ch law st n g = 0 := by
    unfold fnS at hf
    simp only [Bool.and_eq_true, decide_eq_true_eq] at hf
    exact hf.1.1
  have h1 := fb_ct_upd (fun g => !decide (raS ch law st n g = 0)) true (i := g) (n := nG ch) hg
  simp only [z, decide_true, Bool.not_true, Bool.false_eq_true, ↓reduceIte] at h1
  have h2 : fb_ct (fun k => if k = g then true else !decide (raS ch law st n k = 0)) (nG ch) ≤ fb_ct (fun g => !decide (raS ch law st (n + 1) g = 0)) (nG ch) := by
    apply fb_ct_sub
    intro k hk hb
    show (!decide (raS ch law st (n + 1) k = 0)) = true
    rw [raS, if_pos hk]
    by_cases e : fnS ch law st (raS ch law st n) k = true
    · rw [if_pos e]; simp
    · rw [if_neg e]
      by_cases ek : k = g
      · subst ek; exact absurd hf e
      · simpa [ek] using hb
  omega
theorem yld_0 {ch : Nat → Int32} {law : Law} {seed C : Nat} {L : Nat → Bool} {p : Nat} (h : L p = false) : yldS ch law seed C L p = 0 := by
  unfold yldS
  rw [smS_ext (m := 0) (by omega) (fun i _ _ => ?_)]
  · rfl
  · have : shS ch law L i p = 0 := by unfold shS; rw [if_neg (by rw [h]; simp)]
    rw [this, ite_self]
theorem fill_ok {c v0 L : Nat} (hv : hm_len S0 v0 .int = L) (hL : 0 < L) (hL2 : L < 100000) {x : Int32} {N : hn} : ∃ N', F_J7_fill_53178 c v0 x N = some N' ∧ off1 v0 N N' ∧ ∀ i, i < L → N'.1 v0 i = x := by
  have e : ¬ L = 0 := by omega
  have ib : ∀ k, k < L → hm_ib S0 v0 .int (nI k) = true := by
    intro k hk
    unfold hm_ib
    rw [hv, nI_lt31 (by omega)]
    simp [nI_p (show k < 2147483648 by omega), hk]
  have lead : F_J7_fill_53178 c v0 x N = F_J7_fill_53178_1 c hN v0 x (0 : Int32) (nI L) N := by
    simp only [F_J7_fill_53178, hv, ne_eq, e, not_false_eq_true, hg_T, hl_e]
    rfl
  rw [lead]
  refine it_wp (B := B_J7_fill_53178_1 c) (z := fun _ _ _ _ _ => none) (fun K k (s : hn) => K v0 x (nI k) (nI L) s) L
    (fun k s => off1 v0 N s ∧ ∀ i, i < k → s.1 v0 i = x)
    (Q := fun y => ∃ N', y = some N' ∧ off1 v0 N N' ∧ ∀ i, i < L → N'.1 v0 i = x) ?_ ?_ (n := hN) (k := 0) (s := N) (by omega) (hN_big (by omega)) ⟨off1.refl, fun i hi => absurd hi (Nat.not_lt_zero i)⟩
  · rintro K s ⟨i1, i2⟩
    refine ⟨s, ?_, i1, i2⟩
    have g : nI L ≤ nI L := Int32.le_refl _
    simp only [B_J7_fill_53178_1, g, ↓reduceIte]
  · rintro K k s hk ⟨i1, i2⟩
    right
    have g : ¬ nI L ≤ nI k := nI_ge hk (by omega)
    have c1 : (nI k).toNatClampNeg = k := nI_lt31 (by omega)
    refine ⟨hn_wI s v0 k x, ⟨i1.trans off1.w, ?_⟩, ?_⟩
    · intro i hi
      by_cases q : i = k
      · subst q; rw [wI_s]
      · rw [wI_n q]; exact i2 i (by omega)
    · simp only [B_J7_fill_53178_1, g, ↓reduceIte, ib k hk, hg_T, c1, hl_e, ← nI_succ]
theorem RR.w46 {c : Nat} {ch : Nat → Int32} {law : Law} {N N' : hn} (h : RR c ch law N) (ho : off1 46 N N') : RR c ch law N' := by
  have hcc : c = 5 ∨ c = 20 := h.1
  obtain ⟨-, -, -, ⟨-, a5, a6⟩, -⟩ := id h
  refine h.qP ⟨fun b hb => ho.1 b (by omega), fun b _ _ => by rw [ho.2]⟩ ⟨?_, ?_⟩ (a6.off (ho.1 _ (by decide)) (ho.1 _ (by decide)) (ho.1 _ (by decide)))
  · unfold yrP; rw [ho.2]; exact a5.1
  · unfold atT; rw [ho.1 19 (by decide), ho.1 34 (by decide), ho.1 (c + 13) (by omega)]; exact a5.2
/-- one round of the class -/
theorem fall_2 {c : Nat} {ch : Nat → Int32} {law : Law} {N : hn} (h : RR c ch law N) {n y : Nat} (hn6 : n < 6) (hy : y < 17) {lit : Int32} {K : Nat → Int32 → Int32 → hn → Option hn}
    (hl : ∀ i, i < 32 → bt lit i = (decide (i < nP ch) && litF (N.1 88) (raS ch law (N.1 88) n) i)) (hY : ∀ q, q < 12 → N.1 44 (y * 12 + q) = YF ch law (N.1 88) (raS ch law (N.1 88) n) q)
    (h46 : ∀ g, g < 6 → N.1 46 g = nI (raS ch law (N.1 88) n g)) :
    ∃ N' lit', F_Rents_fall_2 c K hN 36 lit (nI (n + 1)) (nI y) (0 : Int32) (0 : Int32) N = K 36 lit' (nI (n + 2)) N' ∧ off1 46 N N' ∧ (∀ g, g < 6 → N'.1 46 g = nI (raS ch law (N.1 88) (n + 1) g)) ∧
      (∀ i, i < 32 → bt lit' i = (decide (i < nP ch) && litF (N.1 88) (raS ch law (N.1 88) (n + 1)) i)) := by
  obtain ⟨hP, hG, -, -, -, -, -, p3⟩ := h.P
  obtain ⟨b1, b2, b3, b4, b5⟩ := h.hold
  obtain ⟨-, -, -, ⟨k1, -⟩, -⟩ := id h
  have hcc : c = 5 ∨ c = 20 := h.1
  have own : ∀ p, p < nP ch → ∃ o, o < nG ch ∧ N.1 88 p = nI o ∧ (N.1 88 p).toNatClampNeg = o := by
    intro p hp
    obtain ⟨o, o1, o2⟩ := (b3 p hp).2
    exact ⟨o, o1, o2, by rw [o2]; exact nI_lt31 (by omega)⟩
  refine it_wp (B := B_Rents_fall_2 c K) (z := fun _ _ _ _ _ _ _ => none) (fun K' k (s : Int32 × hn) => K' 36 lit (nI (n + 1)) (nI y) s.1 (nI k) s.2) (nG ch)
    (fun k s => off1 46 N s.2 ∧ (∀ g, g < 6 → s.2.1 46 g = nI (if g < k then raS ch law (N.1 88) (n + 1) g else raS ch law (N.1 88) n g)) ∧
      (∀ i, i < 32 → (bt s.1 i = true ↔ ∃ g, g < k ∧ fnS ch law (N.1 88) (raS ch law (N.1 88) n) g = true ∧ i < nP ch ∧ N.1 88 i = nI g ∧ litF (N.1 88) (raS ch law (N.1 88) n) i = true)))
    (Q := fun x => ∃ N' lit', x = K 36 lit' (nI (n + 2)) N' ∧ off1 46 N N' ∧ (∀ g, g < 6 → N'.1 46 g = nI (raS ch law (N.1 88) (n + 1) g)) ∧
      (∀ i, i < 32 → bt lit' i = (decide (i < nP ch) && litF (N.1 88) (raS ch law (N.1 88) (n + 1)) i))) ?_ ?_ (n := hN) (k := 0) (s := (0, N)) (by omega) (hN_big (by omega)) ⟨off1.refl, fun g hg => by rw [if_neg (by omega)]; exact h46 g hg, fun i hi => by rw [b_0]; simp⟩
  · rintro K' ⟨dim, s⟩ ⟨i1, i2, i3⟩
    dsimp only at i1 i2 i3
    refine ⟨s, lit &&& (dim ^^^ (-1 : Int32)), ?_, i1, ?_, ?_⟩
    · have g : nI (nG ch) ≤ nI (nG ch) := Int32.le_refl _
      have e3 : s.1 c 3 = nI (nG ch) := by rw [i1.1 c (by omega)]; exact p3
      simp only [B_Rents_fall_2, e3, g, ↓reduceIte, B_Rents_fall_3, hl_e, ← nI_succ]
    · intro g hg
      rw [i2 g hg]
      by_cases e : g < nG ch
      · rw [if_pos e]
      · rw [if_neg e, raS_out (by omega), raS_out (by omega)]
    · intro i hi
      rw [b_and, bt_not hi, hl i hi]
      by_cases hp : i < nP ch
      · obtain ⟨o, o1, o2, o3⟩ := own i hp
        have dimi : bt dim i = (fnS ch law (N.1 88) (raS ch law (N.1 88) n) o && litF (N.1 88) (raS ch law (N.1 88) n) i) := by
          by_cases q : bt dim i = true
          · obtain ⟨g, g1, g2, -, g4, g5⟩ := (i3 i hi).mp q
            have : g = o := (nI_eqi (by omega) (by omega)).mp (g4.symm.trans o2)
            subst this
            rw [q, g2, g5]; rfl
          · have q' : bt dim i = false := by simpa using q
            rw [q']
            by_cases q2 : fnS ch law (N.1 88) (raS ch law (N.1 88) n) o = true ∧ litF (N.1 88) (raS ch law (N.1 88) n) i = true
            · exact absurd ((i3 i hi).mpr ⟨o, o1, q2.1, hp, o2, q2.2⟩) q
            · by_cases q3 : fnS ch law (N.1 88) (raS ch law (N.1 88) n) o = true
              · have : litF (N.1 88) (raS ch law (N.1 88) n) i = false := by
                  by_cases q4 : litF (N.1 88) (raS ch law (N.1 88) n) i = true
                  · exact absurd ⟨q3, q4⟩ q2
                  · simpa using q4
                rw [this]; simp
              · simp at q3; rw [q3]; simp
        rw [dimi]
        unfold litF
        rw [o3, raS, if_pos o1]
        by_cases q : fnS ch law (N.1 88) (raS ch law (N.1 88) n) o = true
        · rw [q]; simp [hp]
        · have q' : fnS ch law (N.1 88) (raS ch law (N.1 88) n) o = false := by simpa using q
          rw [q']; simp [hp]
      · simp [hp]
  · rintro K' k ⟨dim, s⟩ hk ⟨i1, i2, i3⟩
    dsimp only at i1 i2 i3
    right
    have g1 : ¬ nI (nG ch) ≤ nI k := nI_ge hk (by omega)
    have g2 : ¬ (6 : Int32) ≤ nI k := nI_ge (b := 6) (by omega) (by decide)
    have x1 : hn_ix 6 (nI k) = true := ix_ok (by omega) (by decide)
    have c1 : (nI k).toNatClampNeg = k := nI_lt31 (by omega)
    have e3 : s.1 c 3 = nI (nG ch) := by rw [i1.1 c (by omega)]; exact p3
    have s37 : s.1 (36 + 1) = N.1 (36 + 1) := i1.1 _ (by decide)
    have hRs : RR c ch law s := h.w46 i1
    have s88 : s.1 88 = N.1 88 := i1.1 88 (by decide)
    have s44 : s.1 44 = N.1 44 := i1.1 44 (by decide)
    have co : s.1 (c + 3) k = ch (6 + 2 * k) := by rw [i1.1 _ (by omega)]; exact (k1.2.2.1 k hk).2
    have po : F_Hold_panesOf c 36 (nI k) s = some (bitsF (fun p => decide (N.1 88 p = nI k)) (nP ch), s) := by
      rw [panesOf_ok, bitsF_own hRs (by omega), s88]
    -- the guild's lit panes
    obtain ⟨x3, ex3⟩ : ∃ x3, x3 = bitsF (fun p => decide (N.1 88 p = nI k)) (nP ch) &&& lit := ⟨_, rfl⟩
    have bx : ∀ i, i < 32 → bt x3 i = (decide (i < nP ch) && (decide (N.1 88 i = nI k) && litF (N.1 88) (raS ch law (N.1 88) n) i)) := by
      intro i hi
      rw [ex3, b_and, bt_bitsF (by omega) hi, hl i hi]
      by_cases hp : i < nP ch
      · simp [hp]
      · simp [hp]
    have ownk : ∀ p, p < nP ch → N.1 88 p = nI k → (N.1 88 p).toNatClampNeg = k := fun p _ e => by rw [e]; exact nI_lt31 (by omega)
    have xz : x3 = 0 ↔ ¬ (raS ch law (N.1 88) n k = 0 ∧ gvS ch (N.1 88) k = true) := by
      constructor
      · rintro e ⟨r1, r2⟩
        obtain ⟨p, p1, p2⟩ := anyF_iff.mp r2
        simp only [Bool.and_eq_true, decide_eq_true_eq, Bool.not_eq_true'] at p2
        have := bx p (by omega)
        rw [e, b_0] at this
        unfold litF at this
        rw [ownk p p1 p2.1, r1, p2.2] at this
        simp [p1, p2.1] at this
      · intro e
        apply b_ext
        intro i hi
        rw [bx i hi, b_0]
        by_cases q : i < nP ch ∧ N.1 88 i = nI k ∧ litF (N.1 88) (raS ch law (N.1 88) n) i = true
        · exfalso
          apply e
          obtain ⟨q1, q2, q3⟩ := q
          unfold litF at q3
          rw [ownk i q1 q2] at q3
          simp only [Bool.and_eq_true, decide_eq_true_eq, Bool.not_eq_true'] at q3
          exact ⟨q3.2, anyF_iff.mpr ⟨i, q1, by simp [q2, q3.1]⟩⟩
        · by_cases q1 : i < nP ch
          · by_cases q2 : N.1 88 i = nI k
            · have q3 : litF (N.1 88) (raS ch law (N.1 88) n) i = false := by
                by_cases q4 : litF (N.1 88) (raS ch law (N.1 88) n) i = true
                · exact absurd ⟨q1, q2, q4⟩ q
                · simpa using q4
              rw [q3]; simp
            · simp [q2]
          · simp [q1]
    have gb : F_Rents_givenBy c (nI y) x3 s = some (rnS ch (N.1 88) (YF ch law (N.1 88) (raS ch law (N.1 88) n)) k, s) := by
      rw [givenBy_ok hy]
      congr 2
      unfold rnS
      rw [smS_ext (m := nP ch) hP (fun i h1 h2 => by rw [bx i (by omega)]; simp; omega)]
      apply smS_cong
      intro i hi
      rw [bx i (by omega), s44, hY i (by omega)]
      by_cases q : N.1 88 i = nI k
      · by_cases q2 : litF (N.1 88) (raS ch law (N.1 88) n) i = true
        · simp [hi, q, q2]
        · have q3 : litF (N.1 88) (raS ch law (N.1 88) n) i = false := by simpa using q2
          have : YF ch law (N.1 88) (raS ch law (N.1 88) n) i = 0 := yld_0 q3
          simp [q3, this]
      · simp [q]
    have keep : fnS ch law (N.1 88) (raS ch law (N.1 88) n) k = false → (∀ g, g < 6 → s.1 46 g = nI (if g < k + 1 then raS ch law (N.1 88) (n + 1) g else raS ch law (N.1 88) n g)) ∧
        (∀ i, i < 32 → (bt dim i = true ↔ ∃ g, g < k + 1 ∧ fnS ch law (N.1 88) (raS ch law (N.1 88) n) g = true ∧ i < nP ch ∧ N.1 88 i = nI g ∧ litF (N.1 88) (raS ch law (N.1 88) n) i = true)) := by
      intro hf
      refine ⟨?_, ?_⟩
      · intro g hg
        rw [i2 g hg]
        by_cases e : g = k
        · subst e; rw [if_neg (by omega), if_pos (by omega), raS, if_pos hk, hf]; simp
        · by_cases q : g < k
          · rw [if_pos q, if_pos (by omega)]
          · rw [if_neg q, if_neg (by omega)]
      · intro i hi
        rw [i3 i hi]
        constructor
        · rintro ⟨g, q1, q2⟩; exact ⟨g, by omega, q2⟩
        · rintro ⟨g, q1, q2, q3⟩
          by_cases e : g = k
          · subst e; rw [hf] at q2; exact absurd q2 (by decide)
          · exact ⟨g, by omega, q2, q3⟩
    by_cases hx : x3 = 0
    · have hf : fnS ch law (N.1 88) (raS ch law (N.1 88) n) k = false := by
        have := xz.mp hx
        unfold fnS
        by_cases r1 : raS ch law (N.1 88) n k = 0
        · have : gvS ch (N.1 88) k = false := by
            by_cases q : gvS ch (N.1 88) k = true
            · exact absurd ⟨r1, q⟩ this
            · simpa using q
          rw [this]; simp
        · simp [r1]
      obtain ⟨kp1, kp2⟩ := keep hf
      refine ⟨(dim, s), ⟨i1, kp1, kp2⟩, ?_⟩
      simp only [B_Rents_fall_2, e3, g1, g2, ↓reduceIte, po, hbN_e, hl_e]
      rw [← ex3]
      simp only [hx, ↓reduceIte, ← nI_succ]
    · have hx' : raS ch law (N.1 88) n k = 0 ∧ gvS ch (N.1 88) k = true := by
        by_cases q : raS ch law (N.1 88) n k = 0 ∧ gvS ch (N.1 88) k = true
        · exact q
        · exact absurd (xz.mpr q) hx
      by_cases ho : ch (6 + 2 * k) ≤ rnS ch (N.1 88) (YF ch law (N.1 88) (raS ch law (N.1 88) n)) k
      · have hf : fnS ch law (N.1 88) (raS ch law (N.1 88) n) k = false := by unfold fnS; simp [ho]
        obtain ⟨kp1, kp2⟩ := keep hf
        refine ⟨(dim, s), ⟨i1, kp1, kp2⟩, ?_⟩
        simp only [B_Rents_fall_2, e3, g1, g2, ↓reduceIte, po, hbN_e, hl_e]
        rw [← ex3]
        simp only [hx, ↓reduceIte, gb, hbN_e, x1, hg_T, c1, co, ho, ← nI_succ]
      · have hf : fnS ch law (N.1 88) (raS ch law (N.1 88) n) k = true := by unfold fnS; simp [ho, hx'.1, hx'.2]
        refine ⟨(dim ||| x3, hn_wI s 46 k (nI (n + 1))), ⟨i1.trans off1.w, ?_, ?_⟩, ?_⟩
        · intro g hg
          show (hn_wI s 46 k (nI (n + 1))).1 46 g = _
          by_cases e : g = k
          · subst e; rw [wI_s, if_pos (by omega), raS, if_pos hk, if_pos hf]
          · rw [wI_n e, i2 g hg]
            by_cases q : g < k
            · rw [if_pos q, if_pos (by omega)]
            · rw [if_neg q, if_neg (by omega)]
        · intro i hi
          show bt (dim ||| x3) i = true ↔ _
          rw [b_or, Bool.or_eq_true, i3 i hi, bx i hi]
          simp only [Bool.and_eq_true, decide_eq_true_eq]
          constructor
          · rintro (⟨g, q1, q2⟩ | ⟨q1, q2, q3⟩)
            · exact ⟨g, by omega, q2⟩
            · exact ⟨k, by omega, hf, q1, q2, q3⟩
          · rintro ⟨g, q1, q2, q3, q4, q5⟩
            by_cases e : g = k
            · subst e; exact Or.inr ⟨q3, q4, q5⟩
            · exact Or.inl ⟨g, by omega, q2, q3, q4, q5⟩
        · simp only [B_Rents_fall_2, e3, g1, g2, ↓reduceIte, po, hbN_e, hl_e]
          rw [← ex3]
          simp only [hx, ↓reduceIte, gb, hbN_e, x1, hg_T, c1, co, ho, hl_e, ← nI_succ]
theorem fall_ps {c : Nat} {ch : Nat → Int32} {law : Law} {N : hn} (h : RR c ch law N) : ∃ N', F_Rents_fall c 36 N = some N' ∧ RR c ch law N' ∧ N'.1 88 = N.1 88 ∧ ∀ g, g < 6 → N'.1 46 g = nI (raS ch law (N.1 88) 6 g) := by
  obtain ⟨hP, hG, -⟩ := h.P
  obtain ⟨Na, f1, f2, f3⟩ := fill_ok (c := c) (v0 := 46) (L := 6) rfl (by decide) (by decide) (x := 0) (N := N)
  have hA := h.w46 f2
  have a88 : Na.1 88 = N.1 88 := f2.1 88 (by decide)
  obtain ⟨l, l1, l2⟩ := lit_ok hA
  rw [a88] at l2
  have lead : F_Rents_fall c 36 N = F_Rents_fall_1 c hN 36 l (1 : Int32) Na := by
    simp only [F_Rents_fall, f1, hvN_e, l1, hbN_e]
  rw [lead]
  refine it_wp (B := B_Rents_fall_1 c) (z := fun _ _ _ _ => none) (fun K k (s : Int32 × hn) => K 36 s.1 (nI (k + 1)) s.2) 6
    (fun k s => RR c ch law s.2 ∧ s.2.1 88 = N.1 88 ∧ (∀ g, g < 6 → s.2.1 46 g = nI (raS ch law (N.1 88) k g)) ∧ ∀ i, i < 32 → bt s.1 i = (decide (i < nP ch) && litF (N.1 88) (raS ch law (N.1 88) k) i))
    (Q := fun x => ∃ N', x = some N' ∧ RR c ch law N' ∧ N'.1 88 = N.1 88 ∧ ∀ g, g < 6 → N'.1 46 g = nI (raS ch law (N.1 88) 6 g)) ?_ ?_ (n := hN) (k := 0) (s := (l, Na)) (by omega) (hN_big (by omega)) ⟨hA, a88, fun g hg => f3 g hg, fun i hi => by rw [l2 i hi]; simp [litF, raS]⟩
  · rintro K ⟨lit, s⟩ ⟨i1, i2, i3, i4⟩
    refine ⟨s, ?_, i1, i2, i3⟩
    have g : (6 : Int32) < nI (6 + 1) := by decide
    simp only [B_Rents_fall_1, g, ↓reduceIte]
  · rintro K k ⟨lit, s⟩ hk ⟨i1, i2, i3, i4⟩
    dsimp only at i1 i2 i3 i4
    right
    have g : ¬ (6 : Int32) < nI (k + 1) := nI_nlt (a := 6) (by omega) (by decide)
    obtain ⟨a1, a2, a3, ⟨a4, a5, a6⟩, -⟩ := id i1
    obtain ⟨y, N1, b1, b2, b3, b4, b5, b6, b7⟩ := yearOf_ok a1 a2 a3 a4 a5 a6 (lit := lit)
    have hR1 := i1.qP b6 b4 b5
    have n88 : N1.1 88 = N.1 88 := by rw [b6.1 88 (by omega)]; exact i2
    have hY : ∀ q, q < 12 → N1.1 44 (y * 12 + q) = YF ch law (N1.1 88) (raS ch law (N1.1 88) k) q := by
      intro q hq
      rw [b3 q hq, n88]
      exact yldS_cong (fun p hp => by rw [i4 p (by omega)]; simp [hp]) a2
    obtain ⟨N2, lit', w1, w2, w3, w4⟩ := fall_2 hR1 (n := k) hk b2 (lit := lit) (K := K) (by rw [n88]; exact i4) hY (by rw [n88, b7]; exact i3)
    rw [n88] at w3 w4
    refine ⟨(lit', N2), ⟨hR1.w46 w2, by show N2.1 88 = _; rw [w2.1 88 (by decide)]; exact n88, w3, w4⟩, ?_⟩
    simp only [B_Rents_fall_1, g, ↓reduceIte, b1, hbN_e]
    exact w1
