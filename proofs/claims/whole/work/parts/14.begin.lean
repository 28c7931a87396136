/-! the two begin() keep the bound of the memory -/
theorem mb_Laws_begin_loop {S : hm_S} {n : Nat} : ∀ (q v0 : Nat) (v1 : Int32) (M M' : hm_M), hm_MB M n → v0 ≤ n → f_Laws_begin_1 S q v0 v1 M = some M' → hm_MB M' n := by
  intro q
  induction q with
  | zero => intro v0 v1 M M' hB h0 hF; cases hF
  | succ q ih =>
    intro v0 v1 M M' hB h0 hF
    have hF : b_Laws_begin_1 S (f_Laws_begin_1 S q) v0 v1 M = some M' := hF
    unfold b_Laws_begin_1 at hF
    by_cases h : (4 : Int32) ≤ v1
    · have hF := hi_pos h hF
      obtain rfl := hr_somev hF
      exact hB
    · have hF := hi_neg h hF
      obtain ⟨-, hF⟩ := hg_some hF
      obtain ⟨-, hF⟩ := hg_some hF
      obtain ⟨-, hF⟩ := hg_some hF
      obtain ⟨M6, e6, hF⟩ := hl_some hF
      have hB : hm_MB M6 n := by rw [e6]; exact hB.wI (hB.1 _ _)
      obtain ⟨-, hF⟩ := hg_some hF
      obtain ⟨-, hF⟩ := hg_some hF
      obtain ⟨M7, e7, hF⟩ := hl_some hF
      have hB : hm_MB M7 n := by rw [e7]; exact hB.wI (hB.1 _ _)
      exact ih _ _ _ _ hB h0 hF
theorem mb_Laws_begin {S : hm_S} {n v0 : Nat} {M M' : hm_M} (hB : hm_MB M n) (h0 : v0 ≤ n) (hF : f_Laws_begin S v0 M = some M') : hm_MB M' n := by
  unfold f_Laws_begin at hF
  obtain ⟨-, hF⟩ := hg_some hF
  obtain ⟨M6, e6, hF⟩ := hl_some hF
  have hB : hm_MB M6 n := by rw [e6]; exact hB.wI h0
  exact mb_Laws_begin_loop _ _ _ _ _ hB h0 hF
theorem mb_Chapel_begin {S : hm_S} {n v0 : Nat} {M M' : hm_M} (hB : hm_MB M n) (h0 : v0 ≤ n) (hF : f_Chapel_begin S v0 M = some M') : hm_MB M' n := by
  unfold f_Chapel_begin at hF
  obtain ⟨-, hF⟩ := hg_some hF
  obtain ⟨M1, e1, hF⟩ := hl_some hF
  have hB : hm_MB M1 n := by rw [e1]; exact hB.wI h0
  obtain ⟨M2, e2, hF⟩ := hl_some hF
  have hB : hm_MB M2 n := by rw [e2]; exact hB.wI h0
  obtain ⟨M3, e3, hF⟩ := hl_some hF
  have hB : hm_MB M3 n := by rw [e3]; exact hB.wI h0
  obtain ⟨M4, e4, hF⟩ := hl_some hF
  have hB : hm_MB M4 n := by rw [e4]; exact hB.wI h0
  obtain ⟨M5, e5, hF⟩ := hl_some hF
  have hB : hm_MB M5 n := by rw [e5]; exact hB.wI h0
  obtain ⟨-, hF⟩ := hg_some hF
  obtain ⟨-, hF⟩ := hg_some hF
  obtain ⟨M6, c6, hF⟩ := hv_some hF
  obtain rfl := hr_somev hF
  exact mb_Laws_begin hB (hB.1 _ _) c6
