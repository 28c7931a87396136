/-! BEST: the most gain of a set of panes, whoever is looked at first -/
def del (S : Nat → Bool) (i : Nat) : Nat → Bool := fun k => S k && !decide (k = i)
theorem del_same {S : Nat → Bool} {i : Nat} : del S i i = false := by simp [del]
theorem del_ne {S : Nat → Bool} {i k : Nat} (h : k ≠ i) : del S i k = S k := by simp [del, h]
theorem del_comm (S : Nat → Bool) (i j : Nat) : del (del S i) j = del (del S j) i := by funext k; simp only [del]; cases S k <;> simp [Bool.and_comm]
def fmx (f : Nat → Nat) (S : Nat → Bool) (b : Nat) : Nat → Nat
  | 0 => b
  | p + 1 => if S p then max (fmx f S b p) (f p) else fmx f S b p
theorem fmx_ge {f : Nat → Nat} {S : Nat → Bool} {b : Nat} : ∀ n, b ≤ fmx f S b n
  | 0 => Nat.le_refl _
  | n + 1 => by rw [fmx]; have := fmx_ge (f := f) (S := S) (b := b) n; split <;> omega
theorem fmx_all {f : Nat → Nat} {S : Nat → Bool} {b : Nat} : ∀ {n k : Nat}, k < n → S k = true → f k ≤ fmx f S b n
  | n + 1, k, hk, hs => by
    rw [fmx]
    by_cases e : k = n
    · subst e; rw [if_pos hs]; omega
    · have := fmx_all (f := f) (S := S) (b := b) (n := n) (by omega) hs
      split <;> omega
theorem fmx_or {f : Nat → Nat} {S : Nat → Bool} {b : Nat} : ∀ n, fmx f S b n = b ∨ ∃ k, k < n ∧ S k = true ∧ fmx f S b n = f k
  | 0 => Or.inl rfl
  | n + 1 => by
    rw [fmx]
    rcases fmx_or (f := f) (S := S) (b := b) n with h | ⟨k, k1, k2, k3⟩
    · by_cases q : S n = true
      · rw [if_pos q, h]
        rcases Nat.le_total (f n) b with z | z
        · left; omega
        · right; exact ⟨n, by omega, q, by omega⟩
      · rw [if_neg q]; exact Or.inl h
    · by_cases q : S n = true
      · rw [if_pos q, k3]
        rcases Nat.le_total (f n) (f k) with z | z
        · right; exact ⟨k, by omega, k2, by omega⟩
        · right; exact ⟨n, by omega, q, by omega⟩
      · rw [if_neg q]; exact Or.inr ⟨k, by omega, k2, k3⟩
theorem fmx_cong {f g : Nat → Nat} {S T : Nat → Bool} {b : Nat} : ∀ {n : Nat}, (∀ k, k < n → S k = T k) → (∀ k, k < n → S k = true → f k = g k) → fmx f S b n = fmx g T b n
  | 0, _, _ => rfl
  | n + 1, h, h2 => by
    rw [fmx, fmx, fmx_cong (fun k hk => h k (by omega)) (fun k hk => h2 k (by omega)), ← h n (by omega)]
    by_cases q : S n = true
    · rw [if_pos q, if_pos q, h2 n (by omega) q]
    · rw [if_neg q, if_neg q]
/-- the most gain, the highest pane first -/
def Vf (G : Nat → Nat → Nat) : Nat → (Nat → Bool) → Nat
  | 0, _ => 0
  | n + 1, S => if S n then fmx (fun p => G n p + Vf G n (del S p)) (fun p => S p && decide (0 < G n p)) (Vf G n S) n else Vf G n S
theorem Vf_cong {G : Nat → Nat → Nat} : ∀ {n : Nat} {S T : Nat → Bool}, (∀ k, k < n → S k = T k) → Vf G n S = Vf G n T
  | 0, _, _, _ => rfl
  | n + 1, S, T, h => by
    have e0 : Vf G n S = Vf G n T := Vf_cong (fun k hk => h k (by omega))
    rw [Vf, Vf, h n (by omega), e0]
    by_cases q : T n = true
    · rw [if_pos q, if_pos q]
      apply fmx_cong
      · intro k hk; rw [h k (by omega)]
      · intro k hk _
        have : Vf G n (del S k) = Vf G n (del T k) := Vf_cong (fun j hj => by simp only [del]; rw [h j (by omega)])
        rw [this]
    · rw [if_neg q, if_neg q]
theorem Vf_le {G : Nat → Nat → Nat} {B : Nat} (hB : ∀ a b, G a b ≤ B) : ∀ n S, Vf G n S ≤ n * B
  | 0, _ => by rw [Vf]; omega
  | n + 1, S => by
    have e : (n + 1) * B = n * B + B := Nat.succ_mul n B
    rw [Vf]
    split
    · rcases fmx_or (f := fun p => G n p + Vf G n (del S p)) (S := fun p => S p && decide (0 < G n p)) (b := Vf G n S) n with h | ⟨k, -, -, h⟩
      · rw [h]; have := Vf_le hB n S; omega
      · rw [h]; have a := Vf_le hB n (del S k); have b := hB n k
        show G n k + Vf G n (del S k) ≤ _
        omega
    · have := Vf_le hB n S; omega
theorem Vf_lo {G : Nat → Nat → Nat} {n : Nat} {S : Nat → Bool} (h : S n = false) : Vf G (n + 1) S = Vf G n S := by rw [Vf, h]; rfl
/-- looked at from any pane -/
def symV (G : Nat → Nat → Nat) (n : Nat) : Prop := ∀ (S : Nat → Bool) i, i < n → S i = true →
  Vf G n (del S i) ≤ Vf G n S ∧ (∀ k, k < n → k ≠ i → S k = true → 0 < G i k → G i k + Vf G n (del (del S i) k) ≤ Vf G n S) ∧
  (Vf G n S = Vf G n (del S i) ∨ ∃ k, k < n ∧ k ≠ i ∧ S k = true ∧ 0 < G i k ∧ Vf G n S = G i k + Vf G n (del (del S i) k))
theorem sym_ok {G : Nat → Nat → Nat} (hG : ∀ a b, G a b = G b a) : ∀ n, symV G n
  | 0 => fun S i hi => absurd hi (Nat.not_lt_zero i)
  | n + 1 => by
    have ih := sym_ok hG n
    intro S i hi hs
    by_cases hn0 : S n = true
    · -- the highest pane's own account
      have dn : ∀ T : Nat → Bool, Vf G n (del T n) = Vf G n T := fun T => Vf_cong (fun k hk => del_ne (by omega))
      have lo : ∀ T : Nat → Bool, Vf G (n + 1) (del T n) = Vf G n T := fun T => by rw [Vf_lo del_same, dn]
      have up1 : ∀ T : Nat → Bool, T n = true → Vf G n T ≤ Vf G (n + 1) T := fun T hT => by rw [Vf, if_pos hT]; exact fmx_ge n
      have up2 : ∀ (T : Nat → Bool) p, T n = true → p < n → T p = true → 0 < G n p → G n p + Vf G n (del T p) ≤ Vf G (n + 1) T := fun T p hT hp hTp hg => by
        rw [Vf, if_pos hT]
        exact fmx_all (f := fun p => G n p + Vf G n (del T p)) (S := fun p => T p && decide (0 < G n p)) hp (by simp [hTp, hg])
      have or' : ∀ T : Nat → Bool, T n = true → Vf G (n + 1) T = Vf G n T ∨ ∃ p, p < n ∧ T p = true ∧ 0 < G n p ∧ Vf G (n + 1) T = G n p + Vf G n (del T p) := fun T hT => by
        rw [Vf, if_pos hT]
        rcases fmx_or (f := fun p => G n p + Vf G n (del T p)) (S := fun p => T p && decide (0 < G n p)) (b := Vf G n T) n with h | ⟨k, k1, k2, k3⟩
        · exact Or.inl h
        · simp only [Bool.and_eq_true, decide_eq_true_eq] at k2
          exact Or.inr ⟨k, k1, k2.1, k2.2, k3⟩
      by_cases ei : i = n
      · subst ei
        refine ⟨by rw [lo]; exact up1 S hs, ?_, ?_⟩
        · intro k hk hki hsk hg
          rw [show del (del S i) k = del (del S k) i from del_comm S i k, lo]
          exact up2 S k hs (by omega) hsk hg
        · rcases or' S hs with h | ⟨p, p1, p2, p3, p4⟩
          · left; rw [lo]; exact h
          · right
            refine ⟨p, by omega, by omega, p2, p3, ?_⟩
            rw [show del (del S i) p = del (del S p) i from del_comm S i p, lo]; exact p4
      · have hin : i < n := by omega
        have dS : (del S i) n = true := by rw [del_ne (fun e => ei e.symm)]; exact hn0
        have A : Vf G (n + 1) (del S i) ≤ Vf G (n + 1) S := by
          rcases or' (del S i) dS with h | ⟨p, p1, p2, p3, p4⟩
          · rw [h]; exact Nat.le_trans (ih S i hin hs).1 (up1 S hn0)
          · have hpi : p ≠ i := fun e => by rw [e, del_same] at p2; exact absurd p2 (by decide)
            rw [del_ne hpi] at p2
            rw [p4, del_comm S i p]
            have := (ih (del S p) i hin (by rw [del_ne (Ne.symm hpi)]; exact hs)).1
            have u := up2 S p hn0 p1 p2 p3
            omega
        have B : ∀ k, k < n + 1 → k ≠ i → S k = true → 0 < G i k → G i k + Vf G (n + 1) (del (del S i) k) ≤ Vf G (n + 1) S := by
          intro k hk hki hsk hg
          by_cases ek : k = n
          · subst ek
            rw [lo, hG i k]
            exact up2 S i hn0 hin hs (by rw [← hG]; exact hg)
          · have hkn : k < n := by omega
            have dT : (del (del S i) k) n = true := by rw [del_ne (fun e => ek e.symm)]; exact dS
            rcases or' (del (del S i) k) dT with h | ⟨p, p1, p2, p3, p4⟩
            · rw [h]; exact Nat.le_trans ((ih S i hin hs).2.1 k hkn hki hsk hg) (up1 S hn0)
            · have hpk : p ≠ k := fun e => by rw [e, del_same] at p2; exact absurd p2 (by decide)
              rw [del_ne hpk] at p2
              have hpi : p ≠ i := fun e => by rw [e, del_same] at p2; exact absurd p2 (by decide)
              rw [del_ne hpi] at p2
              have e1 : del (del (del S i) k) p = del (del (del S p) i) k := by rw [del_comm (del S i) k p, del_comm S i p]
              rw [p4, e1]
              have := (ih (del S p) i hin (by rw [del_ne (Ne.symm hpi)]; exact hs)).2.1 k hkn hki (by rw [del_ne (Ne.symm hpk)]; exact hsk) hg
              have u := up2 S p hn0 p1 p2 p3
              omega
        refine ⟨A, B, ?_⟩
        rcases or' S hn0 with h | ⟨p, p1, p2, p3, p4⟩
        · rcases (ih S i hin hs).2.2 with q | ⟨k, k1, k2, k3, k4, k5⟩
          · left
            have := up1 (del S i) dS
            omega
          · right
            refine ⟨k, by omega, k2, k3, k4, ?_⟩
            have dT : (del (del S i) k) n = true := by rw [del_ne (by omega)]; exact dS
            have u := up1 (del (del S i) k) dT
            have b := B k (by omega) k2 k3 k4
            omega
        · by_cases hpi : p = i
          · subst hpi
            right
            refine ⟨n, by omega, fun e => ei e.symm, hn0, by rw [hG]; exact p3, ?_⟩
            rw [lo, hG p n]; exact p4
          · have sp : (del S p) i = true := by rw [del_ne (Ne.symm hpi)]; exact hs
            rcases (ih (del S p) i hin sp).2.2 with q | ⟨k, k1, k2, k3, k4, k5⟩
            · left
              have u := up2 (del S i) p dS p1 (by rw [del_ne hpi]; exact p2) p3
              rw [del_comm S i p] at u
              omega
            · have hkp : k ≠ p := fun e => by rw [e, del_same] at k3; exact absurd k3 (by decide)
              rw [del_ne hkp] at k3
              right
              refine ⟨k, by omega, k2, k3, k4, ?_⟩
              have dT : (del (del S i) k) n = true := by rw [del_ne (by omega)]; exact dS
              have e1 : del (del (del S i) k) p = del (del (del S p) i) k := by rw [del_comm (del S i) k p, del_comm S i p]
              have u := up2 (del (del S i) k) p dT p1 (by rw [del_ne (Ne.symm hkp), del_ne hpi]; exact p2) p3
              rw [e1] at u
              have b := B k (by omega) k2 k3 k4
              omega
    · have hn0' : S n = false := by simpa using hn0
      have hin : i < n := by
        have : i ≠ n := fun e => hn0 (by rw [← e]; exact hs)
        omega
      have l1 : Vf G (n + 1) S = Vf G n S := Vf_lo hn0'
      have l2 : Vf G (n + 1) (del S i) = Vf G n (del S i) := Vf_lo (by simp [del, hn0'])
      have l3 : ∀ k, Vf G (n + 1) (del (del S i) k) = Vf G n (del (del S i) k) := fun k => Vf_lo (by simp [del, hn0'])
      obtain ⟨a, b, d⟩ := ih S i hin hs
      refine ⟨by rw [l1, l2]; exact a, ?_, ?_⟩
      · intro k hk hki hsk hg
        have : k ≠ n := fun e => hn0 (by rw [← e]; exact hsk)
        rw [l1, l3]; exact b k (by omega) hki hsk hg
      · rw [l1, l2]
        rcases d with q | ⟨k, k1, k2, k3, k4, k5⟩
        · exact Or.inl q
        · exact Or.inr ⟨k, by omega, k2, k3, k4, by rw [l3]; exact k5⟩
/-! the partner chosen: the first that gives the most -/
/-- what pane p gets by e (itself: alone) -/
def opG (G : Nat → Nat → Nat) (L : Nat → Bool) (p e : Nat) : Nat := if e = p then Vf G 12 (del L p) else G p e + Vf G 12 (del (del L p) e)
def vdG (G : Nat → Nat → Nat) (L : Nat → Bool) (p e : Nat) : Bool := decide (e = p) || (del L p e && decide (0 < G p e))
/-- the most and its first partner among p .. e-1 -/
def mxP (G : Nat → Nat → Nat) (L : Nat → Bool) (p : Nat) : Nat → Nat × Nat
  | 0 => (Vf G 12 (del L p), p)
  | j + 1 => if vdG G L p (p + 1 + j) = true ∧ (mxP G L p j).1 < opG G L p (p + 1 + j) then (opG G L p (p + 1 + j), p + 1 + j) else mxP G L p j
theorem mxP_ok {G : Nat → Nat → Nat} {L : Nat → Bool} {p : Nat} : ∀ j, vdG G L p (mxP G L p j).2 = true ∧ p ≤ (mxP G L p j).2 ∧ (mxP G L p j).2 ≤ p + j ∧ opG G L p (mxP G L p j).2 = (mxP G L p j).1 ∧
    (∀ e, p ≤ e → e ≤ p + j → vdG G L p e = true → opG G L p e ≤ (mxP G L p j).1) ∧ (∀ e, p ≤ e → e < (mxP G L p j).2 → vdG G L p e = true → opG G L p e < (mxP G L p j).1)
  | 0 => by
    refine ⟨by simp [mxP, vdG], Nat.le_refl _, Nat.le_refl _, by simp [mxP, opG], ?_, ?_⟩
    · intro e h1 h2 _
      have : e = p := by omega
      subst this; simp [mxP, opG]
    · intro e h1 h2; have : e < p := h2; omega
  | j + 1 => by
    obtain ⟨a1, a2, a3, a4, a5, a6⟩ := mxP_ok (G := G) (L := L) (p := p) j
    rw [mxP]
    by_cases q : vdG G L p (p + 1 + j) = true ∧ (mxP G L p j).1 < opG G L p (p + 1 + j)
    · rw [if_pos q]
      refine ⟨q.1, by show p ≤ p + 1 + j; omega, by show p + 1 + j ≤ _; omega, rfl, ?_, ?_⟩
      · intro e h1 h2 h3
        by_cases ee : e = p + 1 + j
        · subst ee; exact Nat.le_refl _
        · have := a5 e h1 (by omega) h3
          show opG G L p e ≤ opG G L p (p + 1 + j)
          omega
      · intro e h1 h2 h3
        have h2' : e < p + 1 + j := h2
        have := a5 e h1 (by omega) h3
        show opG G L p e < opG G L p (p + 1 + j)
        omega
    · rw [if_neg q]
      refine ⟨a1, a2, by omega, a4, ?_, a6⟩
      intro e h1 h2 h3
      by_cases ee : e = p + 1 + j
      · subst ee
        by_cases z : (mxP G L p j).1 < opG G L p (p + 1 + j)
        · exact absurd ⟨h3, z⟩ q
        · omega
      · exact a5 e h1 (by omega) h3
/-- all of them: the most of the set -/
theorem mxP_V {G : Nat → Nat → Nat} (hG : ∀ a b, G a b = G b a) {L : Nat → Bool} {p P : Nat} (hp : p < P) (hP : P ≤ 12) (hL : L p = true) (hlo : ∀ k, L k = true → p ≤ k ∧ k < P) : (mxP G L p (P - 1 - p)).1 = Vf G 12 L := by
  obtain ⟨a1, a2, a3, a4, a5, a6⟩ := mxP_ok (G := G) (L := L) (p := p) (P - 1 - p)
  obtain ⟨s1, s2, s3⟩ := sym_ok hG 12 L p (by omega) hL
  apply Nat.le_antisymm
  · rw [← a4]
    unfold opG
    by_cases e : (mxP G L p (P - 1 - p)).2 = p
    · rw [if_pos e]; exact s1
    · rw [if_neg e]
      unfold vdG at a1
      simp only [Bool.or_eq_true, decide_eq_true_eq, Bool.and_eq_true] at a1
      rcases a1 with q | ⟨q1, q2⟩
      · exact absurd q e
      · rw [del_ne e] at q1
        exact s2 _ (by have := (hlo _ q1).2; omega) e q1 q2
  · rcases s3 with q | ⟨k, k1, k2, k3, k4, k5⟩
    · rw [q]
      have := a5 p (Nat.le_refl _) (by omega) (by simp [vdG])
      rw [opG, if_pos rfl] at this; exact this
    · rw [k5]
      obtain ⟨l1, l2⟩ := hlo k k3
      have := a5 k l1 (by omega) (by unfold vdG; rw [del_ne k2]; simp [k3, k4])
      rw [opG, if_neg k2] at this; exact this
def ptG (G : Nat → Nat → Nat) (L : Nat → Bool) (p P : Nat) : Nat := (mxP G L p (P - 1 - p)).2
/-- the whole row, from pane p on -/
def chS (G : Nat → Nat → Nat) (P : Nat) : Nat → Nat → (Nat → Bool) → (Nat → Nat) → Nat → Nat
  | 0, _, _, a => a
  | m + 1, p, L, a => if L p then chS G P m (p + 1) (del (del L p) (ptG G L p P)) (fun k => if k = ptG G L p P then p else if k = p then ptG G L p P else a k) else chS G P m (p + 1) L a
