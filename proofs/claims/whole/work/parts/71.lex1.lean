/-! CHAPEL: the tape as tokens (t: the signs' numbers, n: how many) -/
def cL (m : Nat) : Bool := decide (97 ≤ m) && decide (m ≤ 122)
def cD (m : Nat) : Bool := decide (48 ≤ m) && decide (m ≤ 57)
def cB (m : Nat) : Bool := decide (m = 10) || decide (m = 32)
def cS (m : Nat) : Bool := decide (m = 40) || decide (m = 41) || decide (m = 59) || decide (m = 61) || decide (m = 60) || decide (m = 43) || decide (m = 45) || decide (m = 42)
/-- where a run ends -/
def rE (f : Nat → Bool) (t : Nat → Nat) : Nat → Nat → Nat
  | 0, p => p
  | m + 1, p => if f (t p) then rE f t m (p + 1) else p
theorem rE_b {f : Nat → Bool} {t : Nat → Nat} : ∀ m p, p ≤ rE f t m p ∧ rE f t m p ≤ p + m
  | 0, p => by rw [rE]; omega
  | m + 1, p => by
    rw [rE]
    have := rE_b (f := f) (t := t) m (p + 1)
    split <;> omega
theorem rE_in {f : Nat → Bool} {t : Nat → Nat} : ∀ m p k, p ≤ k → k < rE f t m p → f (t k) = true
  | 0, p, k, h1, h2 => by rw [rE] at h2; omega
  | m + 1, p, k, h1, h2 => by
    rw [rE] at h2
    by_cases q : f (t p) = true
    · rw [if_pos q] at h2
      by_cases e : k = p
      · subst e; exact q
      · exact rE_in m (p + 1) k (by omega) h2
    · rw [if_neg q] at h2; omega
theorem rE_out {f : Nat → Bool} {t : Nat → Nat} : ∀ m p, rE f t m p < p + m → f (t (rE f t m p)) = false
  | 0, p, h => by rw [rE] at h; omega
  | m + 1, p, h => by
    rw [rE] at h ⊢
    by_cases q : f (t p) = true
    · rw [if_pos q] at h ⊢
      exact rE_out m (p + 1) (by omega)
    · rw [if_neg q]; simpa using q
/-- a word as a number of base B -/
def wv (B : Nat) (t : Nat → Nat) (p : Nat) : Nat → Nat
  | 0 => 0
  | k + 1 => B * wv B t p k + (t (p + k) - 96)
def nv (t : Nat → Nat) (p : Nat) : Nat → Nat
  | 0 => 0
  | k + 1 => 10 * nv t p k + (t (p + k) - 48)
theorem wv_lt {B : Nat} (hB : 27 ≤ B) {t : Nat → Nat} {p : Nat} : ∀ k, (∀ i, i < k → cL (t (p + i)) = true) → wv B t p k < B ^ k
  | 0, _ => by rw [wv]; exact Nat.two_pow_pos 0
  | k + 1, h => by
    have ih := wv_lt hB (t := t) (p := p) k (fun i hi => h i (by omega))
    have h1 := h k (by omega)
    simp only [cL, Bool.and_eq_true, decide_eq_true_eq] at h1
    have e : B ^ (k + 1) = B * B ^ k := by rw [Nat.pow_succ, Nat.mul_comm]
    have h2 : B * (wv B t p k + 1) ≤ B * B ^ k := Nat.mul_le_mul_left B ih
    rw [Nat.mul_add] at h2
    rw [wv, e]
    omega
theorem nv_lt {t : Nat → Nat} {p : Nat} : ∀ k, (∀ i, i < k → cD (t (p + i)) = true) → nv t p k < 10 ^ k
  | 0, _ => by rw [nv]; decide
  | k + 1, h => by
    have ih := nv_lt (t := t) (p := p) k (fun i hi => h i (by omega))
    have h1 := h k (by omega)
    simp only [cD, Bool.and_eq_true, decide_eq_true_eq] at h1
    have e : 10 ^ (k + 1) = 10 * 10 ^ k := by rw [Nat.pow_succ, Nat.mul_comm]
    rw [nv, e]
    omega
theorem wv_inj {B : Nat} (hB : 27 ≤ B) {t t' : Nat → Nat} {p p' : Nat} : ∀ k k', (∀ i, i < k → cL (t (p + i)) = true) → (∀ i, i < k' → cL (t' (p' + i)) = true) → wv B t p k = wv B t' p' k' → k = k' ∧ ∀ i, i < k → t (p + i) = t' (p' + i)
  | 0, 0, _, _, _ => ⟨rfl, fun i hi => absurd hi (Nat.not_lt_zero i)⟩
  | 0, k' + 1, _, h, e => by
    have h1 := h k' (by omega)
    simp only [cL, Bool.and_eq_true, decide_eq_true_eq] at h1
    rw [wv, wv] at e; omega
  | k + 1, 0, h, _, e => by
    have h1 := h k (by omega)
    simp only [cL, Bool.and_eq_true, decide_eq_true_eq] at h1
    rw [wv, wv] at e; omega
  | k + 1, k' + 1, h, h', e => by
    have h1 := h k (by omega)
    have h2 := h' k' (by omega)
    simp only [cL, Bool.and_eq_true, decide_eq_true_eq] at h1 h2
    rw [wv, wv] at e
    have a : (B * wv B t p k + (t (p + k) - 96)) % B = (B * wv B t' p' k' + (t' (p' + k') - 96)) % B := by rw [e]
    rw [Nat.mul_add_mod, Nat.mul_add_mod, Nat.mod_eq_of_lt (by omega), Nat.mod_eq_of_lt (by omega)] at a
    have b : B * wv B t p k = B * wv B t' p' k' := by omega
    have b' := Nat.eq_of_mul_eq_mul_left (by omega) b
    obtain ⟨i1, i2⟩ := wv_inj hB k k' (fun i hi => h i (by omega)) (fun i hi => h' i (by omega)) b'
    subst i1
    refine ⟨rfl, fun i hi => ?_⟩
    by_cases q : i = k
    · subst q; omega
    · exact i2 i (by omega)
theorem wv_cong {B : Nat} {t t' : Nat → Nat} {p p' : Nat} : ∀ k, (∀ i, i < k → t (p + i) = t' (p' + i)) → wv B t p k = wv B t' p' k
  | 0, _ => rfl
  | k + 1, h => by rw [wv, wv, wv_cong k (fun i hi => h i (by omega)), h k (by omega)]
/-- the words told of -/
def WL : List (List Nat) := [[102, 108, 111, 111, 114], [103, 117, 105, 108, 100], [108, 105, 107, 101, 115], [111, 119, 101, 115], [112, 97, 110, 101], [111, 102], [99, 111, 108, 111, 117, 114], [101, 97, 115, 116], [100, 101, 101, 112], [100, 97, 114, 107], [114, 101, 110, 116], [99, 108, 111, 117, 100], [110, 111, 116], [97, 110, 100], [111, 114], [119, 101, 101, 107], [104, 111, 117, 114], [99, 111, 108, 117, 109, 110], [114, 111, 119], [120], [121], [109, 105, 120, 101, 100]]
def WW (k : Nat) : List Nat := WL.getD k []
def isW (t : Nat → Nat) (p len : Nat) (w : List Nat) : Prop := len = w.length ∧ ∀ i, i < len → t (p + i) = w.getD i 0
theorem WW_L : ∀ k, k < 22 → ∀ i, i < (WW k).length → cL ((WW k).getD i 0) = true := by decide
theorem WW_v : ∀ k, k < 22 → wv 37 (fun i => (WW k).getD i 0) 0 (WW k).length = wordS k := by decide
theorem WW_8 : ∀ k, k < 22 → (WW k).length ≤ 8 := by decide
theorem WW_d : ∀ k, k < 22 → ∀ j, j < 22 → WW k = WW j → k = j := by decide
theorem isW_v {t : Nat → Nat} {p len k : Nat} (hk : k < 22) (hL : ∀ i, i < len → cL (t (p + i)) = true) : isW t p len (WW k) ↔ wv 37 t p len = wordS k := by
  rw [← WW_v k hk]
  constructor
  · rintro ⟨h1, h2⟩
    rw [← h1]
    exact wv_cong (t' := fun i => (WW k).getD i 0) (p' := 0) len (fun i hi => by rw [h2 i hi, Nat.zero_add])
  · intro h
    obtain ⟨a, b⟩ := wv_inj (t' := fun i => (WW k).getD i 0) (p' := 0) (by decide) len (WW k).length hL (fun i hi => by rw [Nat.zero_add]; exact WW_L k hk i hi) h
    exact ⟨a, fun i hi => by rw [b i hi, Nat.zero_add]⟩
theorem isW_u {t : Nat → Nat} {p len k j : Nat} (hk : k < 22) (hj : j < 22) (h1 : isW t p len (WW k)) (h2 : isW t p len (WW j)) : k = j := by
  apply WW_d k hk j hj
  apply List.ext_getElem (by rw [← h1.1, ← h2.1])
  intro i a b
  have e1 := h1.2 i (by rw [h1.1]; exact a)
  have e2 := h2.2 i (by rw [h2.1]; exact b)
  rw [List.getD_eq_getElem?_getD, List.getElem?_eq_getElem a, Option.getD_some] at e1
  rw [List.getD_eq_getElem?_getD, List.getElem?_eq_getElem b, Option.getD_some] at e2
  rw [← e1, ← e2]
