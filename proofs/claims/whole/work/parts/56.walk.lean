/-! rows of places: what is counted -/
def dst (k e : Nat) : Nat := (k % 8 - e % 8) + (e % 8 - k % 8) + ((k / 8 - e / 8) + (e / 8 - k / 8))
theorem dst_comm (k e : Nat) : dst k e = dst e k := by unfold dst; omega
theorem ad_8 : ∀ a, a < 8 → ∀ b, b < 8 → (0 ≤ nI a - nI b → nI a - nI b = nI ((a - b) + (b - a))) ∧ (¬ 0 ≤ nI a - nI b → -(nI a - nI b) = nI ((a - b) + (b - a)) ∧ 0 - (nI a - nI b) = nI ((a - b) + (b - a))) := by decide +kernel
theorem md_steps {c k e : Nat} (hk : k < 64) (he : e < 64) {N : hn} : F_Md_steps c (nI k) (nI e) N = some (nI (dst k e), N) := by
  have d1 : nI k / (8 : Int32) = nI (k / 8) := nI_d (b := 8) (by omega) (by decide)
  have d2 : nI e / (8 : Int32) = nI (e / 8) := nI_d (b := 8) (by omega) (by decide)
  have r1 : nI k - nI (k / 8) * (8 : Int32) = nI (k % 8) := by rw [← d1]; exact nI_r (b := 8) (by omega) (by decide)
  have r2 : nI e - nI (e / 8) * (8 : Int32) = nI (e % 8) := by rw [← d2]; exact nI_r (b := 8) (by omega) (by decide)
  obtain ⟨a1, a2⟩ := ad_8 (k % 8) (by omega) (e % 8) (by omega)
  obtain ⟨b1, b2⟩ := ad_8 (k / 8) (by omega) (e / 8) (by omega)
  simp only [F_Md_steps, hl_e, d1, d2, r1, r2, B_Md_steps_1, B_Md_steps_2]
  unfold dst
  by_cases q1 : 0 ≤ nI (k % 8) - nI (e % 8)
  · by_cases q2 : 0 ≤ nI (k / 8) - nI (e / 8)
    · simp only [q1, q2, ↓reduceIte]; rw [a1 q1, b1 q2, nI_a]
    · simp only [q1, q2, ↓reduceIte]; rw [a1 q1, (b2 q2).1, nI_a]
  · by_cases q2 : 0 ≤ nI (k / 8) - nI (e / 8)
    · simp only [q1, q2, ↓reduceIte]; rw [(a2 q1).1, b1 q2, nI_a]
    · simp only [q1, q2, ↓reduceIte]; rw [(a2 q1).1, (b2 q2).1, nI_a]
theorem ps_steps {c k e : Nat} (hk : k < 64) (he : e < 64) {N : hn} : F_Ps_stepsBetween c (nI k) (nI e) N = some (nI (dst k e), N) := by
  have d1 : nI k / (8 : Int32) = nI (k / 8) := nI_d (b := 8) (by omega) (by decide)
  have d2 : nI e / (8 : Int32) = nI (e / 8) := nI_d (b := 8) (by omega) (by decide)
  have r1 : nI k - nI (k / 8) * (8 : Int32) = nI (k % 8) := by rw [← d1]; exact nI_r (b := 8) (by omega) (by decide)
  have r2 : nI e - nI (e / 8) * (8 : Int32) = nI (e % 8) := by rw [← d2]; exact nI_r (b := 8) (by omega) (by decide)
  have ab : ∀ a, a < 8 → ∀ b, b < 8 → hm_abs (nI a - nI b) = nI ((a - b) + (b - a)) := by
    intro a ha b hb
    obtain ⟨a1, a2⟩ := ad_8 a ha b hb
    unfold hm_abs
    by_cases q1 : 0 ≤ nI a - nI b
    · rw [if_pos q1, a1 q1]
    · rw [if_neg q1, (a2 q1).2]
  simp only [F_Ps_stepsBetween, d1, d2, r1, r2, ab _ (show k % 8 < 8 by omega) _ (show e % 8 < 8 by omega), ab _ (show k / 8 < 8 by omega) _ (show e / 8 < 8 by omega), nI_a]
  rfl
/-! sums -/
theorem sm_swap (f : Nat → Nat → Nat) (m : Nat) : ∀ n, fb_sm (fun i => fb_sm (fun j => f i j) m) n = fb_sm (fun j => fb_sm (fun i => f i j) n) m
  | 0 => by
    have : ∀ m, fb_sm (fun _ => 0) m = 0 := fun m => by rw [fb_sm_const]; omega
    show 0 = fb_sm (fun j => 0) m
    rw [this]
  | n + 1 => by
    rw [fb_sm_succ, sm_swap f m n]
    show _ = fb_sm (fun j => fb_sm (fun i => f i j) (n + 1)) m
    simp only [fb_sm_succ]
    rw [fb_sm_add]
theorem sm_mul (c : Nat) (f : Nat → Nat) : ∀ n, fb_sm (fun i => c * f i) n = c * fb_sm f n
  | 0 => rfl
  | n + 1 => by rw [fb_sm_succ, fb_sm_succ, sm_mul c f n, Nat.mul_add]
theorem sm_pt (f : Nat → Nat) (a : Nat) : ∀ n, fb_sm (fun e => if e = a then f e else 0) n = if a < n then f a else 0
  | 0 => by simp [fb_sm]
  | n + 1 => by
    rw [fb_sm_succ, sm_pt f a n]
    by_cases h : n = a
    · subst h; simp
    · have : (a < n + 1) ↔ a < n := by omega
      simp [h, this]
theorem sm_pos {f : Nat → Nat} {n : Nat} : 0 < fb_sm f n ↔ ∃ k, k < n ∧ 0 < f k := by
  induction n with
  | zero => simp [fb_sm]
  | succ n ih =>
    rw [fb_sm_succ]
    constructor
    · intro h
      by_cases q : 0 < f n
      · exact ⟨n, by omega, q⟩
      · obtain ⟨k, k1, k2⟩ := ih.mp (by omega); exact ⟨k, by omega, k2⟩
    · rintro ⟨k, k1, k2⟩
      by_cases e : k = n
      · subst e; omega
      · have := ih.mpr ⟨k, by omega, k2⟩; omega
/-- around a place -/
def arN (f : Nat → Nat) (k : Nat) : Nat := fb_sm (fun e => if dst k e ≤ 1 then f e else 0) 64
theorem ar_five (f : Nat → Nat) {p : Nat} (hp : p < 64) : arN f p = f p + (if 0 < p % 8 then f (p - 1) else 0) + (if p % 8 < 7 then f (p + 1) else 0) + (if 8 ≤ p then f (p - 8) else 0) + (if p < 56 then f (p + 8) else 0) := by
  unfold arN
  have e : ∀ e, e < 64 → (if dst p e ≤ 1 then f e else 0) = (((((if e = p then f e else 0) + (if e = (if 0 < p % 8 then p - 1 else 64) then f e else 0)) + (if e = (if p % 8 < 7 then p + 1 else 64) then f e else 0)) + (if e = (if 8 ≤ p then p - 8 else 64) then f e else 0)) + (if e = (if p < 56 then p + 8 else 64) then f e else 0)) := by
    intro e he
    by_cases h : dst p e ≤ 1
    · rw [if_pos h]
      have hh : e = p ∨ (e + 1 = p ∧ 0 < p % 8) ∨ (e = p + 1 ∧ p % 8 < 7) ∨ (e + 8 = p) ∨ (e = p + 8) := by unfold dst at h; omega
      rcases hh with q | ⟨q, q2⟩ | ⟨q, q2⟩ | q | q
      · subst q
        rw [if_pos rfl, if_neg (by split <;> omega), if_neg (by split <;> omega), if_neg (by split <;> omega), if_neg (by split <;> omega)]; omega
      · rw [if_neg (by omega), if_pos (by rw [if_pos q2]; omega), if_neg (by split <;> omega), if_neg (by split <;> omega), if_neg (by split <;> omega)]; omega
      · rw [if_neg (by omega), if_neg (by split <;> omega), if_pos (by rw [if_pos q2]; omega), if_neg (by split <;> omega), if_neg (by split <;> omega)]; omega
      · rw [if_neg (by omega), if_neg (by split <;> omega), if_neg (by split <;> omega), if_pos (by rw [if_pos (by omega)]; omega), if_neg (by split <;> omega)]; omega
      · rw [if_neg (by omega), if_neg (by split <;> omega), if_neg (by split <;> omega), if_neg (by split <;> omega), if_pos (by rw [if_pos (by omega)]; omega)]; omega
    · rw [if_neg h]
      have n1 : ¬ e = p := fun q => h (by subst q; unfold dst; omega)
      have n2 : ¬ e = (if 0 < p % 8 then p - 1 else 64) := fun q => h (by
        by_cases z : 0 < p % 8
        · rw [if_pos z] at q; unfold dst; omega
        · rw [if_neg z] at q; omega)
      have n3 : ¬ e = (if p % 8 < 7 then p + 1 else 64) := fun q => h (by
        by_cases z : p % 8 < 7
        · rw [if_pos z] at q; unfold dst; omega
        · rw [if_neg z] at q; omega)
      have n4 : ¬ e = (if 8 ≤ p then p - 8 else 64) := fun q => h (by
        by_cases z : 8 ≤ p
        · rw [if_pos z] at q; unfold dst; omega
        · rw [if_neg z] at q; omega)
      have n5 : ¬ e = (if p < 56 then p + 8 else 64) := fun q => h (by
        by_cases z : p < 56
        · rw [if_pos z] at q; unfold dst; omega
        · rw [if_neg z] at q; omega)
      rw [if_neg n1, if_neg n2, if_neg n3, if_neg n4, if_neg n5]
  rw [fb_sm_cong e, fb_sm_add, fb_sm_add, fb_sm_add, fb_sm_add, sm_pt, sm_pt, sm_pt, sm_pt, sm_pt, if_pos hp]
  have k1 : (if (if 0 < p % 8 then p - 1 else 64) < 64 then f (if 0 < p % 8 then p - 1 else 64) else 0) = (if 0 < p % 8 then f (p - 1) else 0) := by
    by_cases z : 0 < p % 8
    · rw [if_pos z, if_pos (by omega), if_pos z]
    · rw [if_neg z, if_neg (by omega), if_neg z]
  have k2 : (if (if p % 8 < 7 then p + 1 else 64) < 64 then f (if p % 8 < 7 then p + 1 else 64) else 0) = (if p % 8 < 7 then f (p + 1) else 0) := by
    by_cases z : p % 8 < 7
    · rw [if_pos z, if_pos (by omega), if_pos z]
    · rw [if_neg z, if_neg (by omega), if_neg z]
  have k3 : (if (if 8 ≤ p then p - 8 else 64) < 64 then f (if 8 ≤ p then p - 8 else 64) else 0) = (if 8 ≤ p then f (p - 8) else 0) := by
    by_cases z : 8 ≤ p
    · rw [if_pos z, if_pos (by omega), if_pos z]
    · rw [if_neg z, if_neg (by omega), if_neg z]
  have k4 : (if (if p < 56 then p + 8 else 64) < 64 then f (if p < 56 then p + 8 else 64) else 0) = (if p < 56 then f (p + 8) else 0) := by
    by_cases z : p < 56
    · rw [if_pos z, if_pos (by omega), if_pos z]
    · rw [if_neg z, if_neg (by omega), if_neg z]
  rw [k1, k2, k3, k4]
/-- how many rows of places lead to a place -/
def wkN (M : Nat → Nat → Bool) : Nat → Nat → Nat
  | 0, k => if M 0 k then 1 else 0
  | n + 1, k => if M (n + 1) k then arN (wkN M n) k else 0
theorem wk_le {M : Nat → Nat → Bool} : ∀ n k, k < 64 → wkN M n k ≤ 5 ^ n
  | 0, k, _ => by rw [wkN]; split <;> omega
  | n + 1, k, hk => by
    rw [wkN]
    split
    · rw [ar_five _ hk]
      have h := wk_le (M := M) n
      have e : 5 ^ (n + 1) = 5 ^ n * 5 := Nat.pow_succ ..
      have a0 := h k hk
      have a1 : (if 0 < k % 8 then wkN M n (k - 1) else 0) ≤ 5 ^ n := by split; exact h _ (by omega); omega
      have a2 : (if k % 8 < 7 then wkN M n (k + 1) else 0) ≤ 5 ^ n := by
        by_cases z : k % 8 < 7
        · rw [if_pos z]; exact h _ (by omega)
        · rw [if_neg z]; omega
      have a3 : (if 8 ≤ k then wkN M n (k - 8) else 0) ≤ 5 ^ n := by split; exact h _ (by omega); omega
      have a4 : (if k < 56 then wkN M n (k + 8) else 0) ≤ 5 ^ n := by
        by_cases z : k < 56
        · rw [if_pos z]; exact h _ (by omega)
        · rw [if_neg z]; omega
      omega
    · exact Nat.zero_le _
/-- forth and back the rows are as many -/
theorem wk_rev {M : Nat → Nat → Bool} {m : Nat} : ∀ n, n ≤ m → fb_sm (wkN M m) 64 = fb_sm (fun k => wkN M (m - n) k * (if n = 0 then 1 else arN (wkN (fun j => M (m - j)) (n - 1)) k)) 64
  | 0, _ => by simp
  | n + 1, hn1 => by
    rw [wk_rev n (by omega)]
    obtain ⟨i, hi⟩ : ∃ i, m - n = i + 1 := ⟨m - n - 1, by omega⟩
    have e1 : m - (n + 1) = i := by omega
    rw [hi, e1]
    have e2 : ∀ k, k < 64 → wkN M (i + 1) k * (if n = 0 then 1 else arN (wkN (fun j => M (m - j)) (n - 1)) k) = fb_sm (fun e => if dst k e ≤ 1 then wkN M i e * wkN (fun j => M (m - j)) n k else 0) 64 := by
      intro k hk
      have e3 : wkN (fun j => M (m - j)) n k = if M (i + 1) k then (if n = 0 then 1 else arN (wkN (fun j => M (m - j)) (n - 1)) k) else 0 := by
        cases n with
        | zero => rw [wkN, show m - 0 = i + 1 by omega]; simp
        | succ n => rw [wkN, show m - (n + 1) = i + 1 by omega]; simp
      rw [wkN]
      by_cases q : M (i + 1) k = true
      · rw [if_pos q, e3, if_pos q]
        generalize (if n = 0 then 1 else arN (wkN (fun j => M (m - j)) (n - 1)) k) = C
        unfold arN
        rw [Nat.mul_comm, ← sm_mul]
        apply fb_sm_cong
        intro e he
        by_cases z : dst k e ≤ 1
        · rw [if_pos z, if_pos z, Nat.mul_comm]
        · rw [if_neg z, if_neg z]; rfl
      · rw [if_neg q, e3, if_neg q, Nat.zero_mul]
        have : ∀ e, e < 64 → (if dst k e ≤ 1 then wkN M i e * 0 else 0) = 0 := fun e _ => by split <;> rfl
        rw [fb_sm_cong this, fb_sm_const]
    rw [fb_sm_cong e2, sm_swap]
    apply fb_sm_cong
    intro e he
    show fb_sm (fun k => if dst k e ≤ 1 then wkN M i e * wkN (fun j => M (m - j)) n k else 0) 64 = wkN M i e * (if n + 1 = 0 then 1 else arN (wkN (fun j => M (m - j)) (n + 1 - 1)) e)
    rw [if_neg (by omega), show n + 1 - 1 = n by omega]
    unfold arN
    rw [← sm_mul]
    apply fb_sm_cong
    intro k hk
    rw [dst_comm k e]
    by_cases z : dst e k ≤ 1
    · rw [if_pos z, if_pos z]
    · rw [if_neg z, if_neg z]; rfl
theorem wk_all {M : Nat → Nat → Bool} {m : Nat} : fb_sm (wkN M m) 64 = fb_sm (wkN (fun j => M (m - j)) m) 64 := by
  rw [wk_rev m (Nat.le_refl m)]
  apply fb_sm_cong
  intro k hk
  rw [Nat.sub_self]
  cases m with
  | zero => simp [wkN]
  | succ m =>
    have e : wkN (fun j => M (m + 1 - j)) (m + 1) k = if M 0 k then arN (wkN (fun j => M (m + 1 - j)) m) k else 0 := by
      rw [wkN, show m + 1 - (m + 1) = 0 by omega]
    rw [e, wkN]
    by_cases q : M 0 k = true
    · simp [q]
    · simp [q]
/-- some row goes by a place at the i-th hour, or there is none at all -/
theorem wk_mid {M : Nat → Nat → Bool} {m i : Nat} (hi : i ≤ m) : 0 < fb_sm (wkN (fun j => M (m - j)) m) 64 ↔ ∃ k, k < 64 ∧ 0 < wkN M i k ∧ 0 < wkN (fun j => M (m - j)) (m - i) k := by
  rw [← wk_all, wk_rev (m - i) (by omega), sm_pos, show m - (m - i) = i by omega]
  have e : ∀ k, 0 < wkN M i k → wkN (fun j => M (m - j)) (m - i) k = (if m - i = 0 then 1 else arN (wkN (fun j => M (m - j)) (m - i - 1)) k) := by
    intro k hk
    have hM : M i k = true := by
      by_cases q : M i k = true
      · exact q
      · cases i with
        | zero => rw [wkN, if_neg q] at hk; omega
        | succ i => rw [wkN, if_neg q] at hk; omega
    cases h : m - i with
    | zero => rw [wkN, show m - 0 = i by omega, if_pos hM]; rfl
    | succ n => rw [wkN, show m - (n + 1) = i by omega, if_pos hM]; simp
  constructor
  · rintro ⟨k, k1, k2⟩
    have k3 : 0 < wkN M i k := Nat.pos_of_mul_pos_right k2
    refine ⟨k, k1, k3, ?_⟩
    rw [e k k3]
    exact Nat.pos_of_mul_pos_left k2
  · rintro ⟨k, k1, k2, k3⟩
    refine ⟨k, k1, ?_⟩
    rw [e k k2] at k3
    exact Nat.mul_pos k2 k3
