/-! THE START: the made memory has references only at its 99 cells -/
def bd (M : hm_M) : Prop := ∀ a k, (100 ≤ a ∨ 34 ≤ k) → M.2.2 a k = 0
theorem bd.wI {M : hm_M} {a i : Nat} {v : Int32} (h : bd M) : bd (hm_wI M a i v) := h
theorem bd.wL {M : hm_M} {a i : Nat} {v : Int64} (h : bd M) : bd (hm_wL M a i v) := h
theorem bd.wR {M : hm_M} {a i v : Nat} (h : bd M) (ha : a < 100) (hi : i < 34) : bd (hm_wR M a i v) := by
  intro b k hb
  show hm_up M.2.2 a i v b k = 0
  unfold hm_up
  rw [if_neg (by omega)]
  exact h b k hb
theorem bd_Laws_begin_loop {S : hm_S} : ∀ (q v0 : Nat) (v1 : Int32) (M M' : hm_M), bd M → f_Laws_begin_1 S q v0 v1 M = some M' → bd M' := by
  intro q
  induction q with
  | zero => intro v0 v1 M M' hB hF; cases hF
  | succ q ih =>
    intro v0 v1 M M' hB hF
    have hF : b_Laws_begin_1 S (f_Laws_begin_1 S q) v0 v1 M = some M' := hF
    unfold b_Laws_begin_1 at hF
    by_cases h : (4 : Int32) ≤ v1
    · have hF := hi_pos h hF
      obtain rfl := hr_somev hF
      exact hB
    · have hF := hi_neg h hF
      obtain ⟨-, hF⟩ := hg_some hF
      obtain ⟨-, hF⟩ := hg_some hF
      obtain ⟨-, hF⟩ := hg_some hF
      obtain ⟨M6, e6, hF⟩ := hl_some hF
      have hB : bd M6 := by rw [e6]; exact hB.wI
      obtain ⟨-, hF⟩ := hg_some hF
      obtain ⟨-, hF⟩ := hg_some hF
      obtain ⟨M7, e7, hF⟩ := hl_some hF
      have hB : bd M7 := by rw [e7]; exact hB.wI
      exact ih _ _ _ _ hB hF
theorem bd_Chapel_begin {S : hm_S} {v0 : Nat} {M M' : hm_M} (hB : bd M) (hF : f_Chapel_begin S v0 M = some M') : bd M' := by
  unfold f_Chapel_begin at hF
  obtain ⟨-, hF⟩ := hg_some hF
  obtain ⟨M1, e1, hF⟩ := hl_some hF
  have hB : bd M1 := by rw [e1]; exact hB.wI
  obtain ⟨M2, e2, hF⟩ := hl_some hF
  have hB : bd M2 := by rw [e2]; exact hB.wI
  obtain ⟨M3, e3, hF⟩ := hl_some hF
  have hB : bd M3 := by rw [e3]; exact hB.wI
  obtain ⟨M4, e4, hF⟩ := hl_some hF
  have hB : bd M4 := by rw [e4]; exact hB.wI
  obtain ⟨M5, e5, hF⟩ := hl_some hF
  have hB : bd M5 := by rw [e5]; exact hB.wI
  obtain ⟨-, hF⟩ := hg_some hF
  obtain ⟨-, hF⟩ := hg_some hF
  obtain ⟨M6, c6, hF⟩ := hv_some hF
  obtain rfl := hr_somev hF
  unfold f_Laws_begin at c6
  obtain ⟨-, c6⟩ := hg_some c6
  obtain ⟨M7, e7, c6⟩ := hl_some c6
  have hB : bd M7 := by rw [e7]; exact hB.wI
  exact bd_Laws_begin_loop _ _ _ _ _ hB c6
theorem bd_Tape {l : List hm_Sh} {v0 : Nat} {M M' : hm_M} (hB : bd M) (h0 : v0 < 100) (hl : l.length + 1 < 100) (hF : g_Tape_init l v0 M = some M') : bd M' := by
  unfold g_Tape_init at hF
  obtain ⟨M1, e1, hF⟩ := hl_some hF
  have hB : bd M1 := by rw [e1]; exact hB.wR (by omega) (by decide)
  obtain ⟨M2, e2, hF⟩ := hl_some hF
  have hB : bd M2 := by rw [e2]; exact hB.wI
  obtain ⟨M3, e3, hF⟩ := hl_some hF
  have hB : bd M3 := by rw [e3]; exact hB.wI
  obtain ⟨M4, e4, hF⟩ := hl_some hF
  have hB : bd M4 := by rw [e4]; exact hB.wI
  obtain ⟨M5, e5, hF⟩ := hl_some hF
  have hB : bd M5 := by rw [e5]; exact hB.wI
  obtain ⟨M6, e6, hF⟩ := hl_some hF
  have hB : bd M6 := by rw [e6]; exact hB.wI
  obtain ⟨M7, e7, hF⟩ := hl_some hF
  have hB : bd M7 := by rw [e7]; exact hB.wL
  obtain rfl := hr_somev hF
  exact hB
theorem bd_Laws {l : List hm_Sh} {v0 : Nat} {M M' : hm_M} (hB : bd M) (h0 : v0 < 100) (hl : l.length + 5 < 100) (hF : g_Laws_init l v0 M = some M') : bd M' := by
  unfold g_Laws_init at hF
  obtain ⟨M1, e1, hF⟩ := hl_some hF
  have hB : bd M1 := by rw [e1]; exact hB.wR (by omega) (by decide)
  obtain ⟨M2, e2, hF⟩ := hl_some hF
  have hB : bd M2 := by rw [e2]; exact hB.wI
  obtain ⟨M3, e3, hF⟩ := hl_some hF
  have hB : bd M3 := by rw [e3]; exact hB.wR (by omega) (by decide)
  obtain ⟨M4, e4, hF⟩ := hl_some hF
  have hB : bd M4 := by rw [e4]; exact hB.wR (by omega) (by decide)
  obtain ⟨M5, e5, hF⟩ := hl_some hF
  have hB : bd M5 := by rw [e5]; exact hB.wR (by omega) (by decide)
  obtain ⟨M6, e6, hF⟩ := hl_some hF
  have hB : bd M6 := by rw [e6]; exact hB.wR (by omega) (by decide)
  obtain rfl := hr_somev hF
  exact hB
theorem bd_Chapel {l : List hm_Sh} {v0 : Nat} {M M' : hm_M} (hB : bd M) (h0 : v0 < 100) (hl : l.length + 13 < 100) (hF : g_Chapel_init l v0 M = some M') : bd M' := by
  unfold g_Chapel_init at hF
  obtain ⟨M1, e1, hF⟩ := hl_some hF
  have hB : bd M1 := by rw [e1]; exact hB.wR (by omega) (by decide)
  obtain ⟨M2, e2, hF⟩ := hl_some hF
  have hB : bd M2 := by rw [e2]; exact hB.wR (by omega) (by decide)
  obtain ⟨M3, e3, hF⟩ := hl_some hF
  have hB : bd M3 := by rw [e3]; exact hB.wR (by omega) (by decide)
  obtain ⟨M4, e4, hF⟩ := hl_some hF
  have hB : bd M4 := by rw [e4]; exact hB.wR (by omega) (by decide)
  obtain ⟨M5, e5, hF⟩ := hl_some hF
  have hB : bd M5 := by rw [e5]; exact hB.wR (by omega) (by decide)
  obtain ⟨M6, e6, hF⟩ := hl_some hF
  have hB : bd M6 := by rw [e6]; exact hB.wR (by omega) (by decide)
  obtain ⟨M7, e7, hF⟩ := hl_some hF
  have hB : bd M7 := by rw [e7]; exact hB.wR (by omega) (by decide)
  obtain ⟨M8, e8, hF⟩ := hv_some hF
  have hB : bd M8 := bd_Laws hB (by omega) (by simp only [List.length_append, List.length_cons, List.length_nil]; omega) e8
  obtain ⟨M9, e9, hF⟩ := hl_some hF
  have hB : bd M9 := by rw [e9]; exact hB.wR (by omega) (by decide)
  obtain ⟨M10, e10, hF⟩ := hv_some hF
  have hB : bd M10 := bd_Chapel_begin hB e10
  obtain rfl := hr_somev hF
  exact hB
theorem bd_Reader {l : List hm_Sh} {v0 : Nat} {M M' : hm_M} (hB : bd M) (h0 : v0 < 100) (hl : l.length + 16 < 100) (hF : g_Reader_init l v0 M = some M') : bd M' := by
  unfold g_Reader_init at hF
  obtain ⟨M1, e1, hF⟩ := hv_some hF
  have hB : bd M1 := bd_Tape hB (by omega) (by simp only [List.length_append, List.length_cons, List.length_nil]; omega) e1
  obtain ⟨M2, e2, hF⟩ := hl_some hF
  have hB : bd M2 := by rw [e2]; exact hB.wR (by omega) (by decide)
  obtain ⟨M3, e3, hF⟩ := hv_some hF
  have hB : bd M3 := bd_Chapel hB (by omega) (by simp only [List.length_append, List.length_cons, List.length_nil]; omega) e3
  obtain ⟨M4, e4, hF⟩ := hl_some hF
  have hB : bd M4 := by rw [e4]; exact hB.wR (by omega) (by decide)
  obtain ⟨M5, e5, hF⟩ := hl_some hF
  have hB : bd M5 := by rw [e5]; exact hB.wI
  obtain ⟨M6, e6, hF⟩ := hl_some hF
  have hB : bd M6 := by rw [e6]; exact hB.wI
  obtain ⟨M7, e7, hF⟩ := hl_some hF
  have hB : bd M7 := by rw [e7]; exact hB.wI
  obtain rfl := hr_somev hF
  exact hB
theorem bd_Light {l : List hm_Sh} {v0 : Nat} {M M' : hm_M} (hB : bd M) (h0 : v0 < 100) (hl : l.length + 16 < 100) (hF : g_Light_init l v0 M = some M') : bd M' := by
  unfold g_Light_init at hF
  obtain ⟨M1, e1, hF⟩ := hv_some hF
  have hB : bd M1 := bd_Chapel hB (by omega) (by simp only [List.length_append, List.length_cons, List.length_nil]; omega) e1
  obtain ⟨M2, e2, hF⟩ := hl_some hF
  have hB : bd M2 := by rw [e2]; exact hB.wR (by omega) (by decide)
  obtain ⟨M3, e3, hF⟩ := hl_some hF
  have hB : bd M3 := by rw [e3]; exact hB.wR (by omega) (by decide)
  obtain ⟨M4, e4, hF⟩ := hl_some hF
  have hB : bd M4 := by rw [e4]; exact hB.wR (by omega) (by decide)
  obtain ⟨M5, e5, hF⟩ := hl_some hF
  have hB : bd M5 := by rw [e5]; exact hB.wI
  obtain rfl := hr_somev hF
  exact hB
theorem bd_Hold {l : List hm_Sh} {v0 : Nat} {M M' : hm_M} (hB : bd M) (h0 : v0 < 100) (hl : l.length + 3 < 100) (hF : g_Hold_init l v0 M = some M') : bd M' := by
  unfold g_Hold_init at hF
  obtain ⟨M1, e1, hF⟩ := hl_some hF
  have hB : bd M1 := by rw [e1]; exact hB.wR (by omega) (by decide)
  obtain ⟨-, hF⟩ := hg_some hF
  obtain ⟨-, hF⟩ := hg_some hF
  obtain ⟨M4, e4, hF⟩ := hl_some hF
  have hB : bd M4 := by rw [e4]; exact hB.wI
  obtain ⟨-, hF⟩ := hg_some hF
  obtain ⟨-, hF⟩ := hg_some hF
  obtain ⟨M7, e7, hF⟩ := hl_some hF
  have hB : bd M7 := by rw [e7]; exact hB.wI
  obtain ⟨-, hF⟩ := hg_some hF
  obtain ⟨-, hF⟩ := hg_some hF
  obtain ⟨M10, e10, hF⟩ := hl_some hF
  have hB : bd M10 := by rw [e10]; exact hB.wI
  obtain ⟨-, hF⟩ := hg_some hF
  obtain ⟨-, hF⟩ := hg_some hF
  obtain ⟨M13, e13, hF⟩ := hl_some hF
  have hB : bd M13 := by rw [e13]; exact hB.wI
  obtain ⟨-, hF⟩ := hg_some hF
  obtain ⟨-, hF⟩ := hg_some hF
  obtain ⟨M16, e16, hF⟩ := hl_some hF
  have hB : bd M16 := by rw [e16]; exact hB.wI
  obtain ⟨-, hF⟩ := hg_some hF
  obtain ⟨-, hF⟩ := hg_some hF
  obtain ⟨M19, e19, hF⟩ := hl_some hF
  have hB : bd M19 := by rw [e19]; exact hB.wI
  obtain ⟨-, hF⟩ := hg_some hF
  obtain ⟨-, hF⟩ := hg_some hF
  obtain ⟨M22, e22, hF⟩ := hl_some hF
  have hB : bd M22 := by rw [e22]; exact hB.wI
  obtain ⟨-, hF⟩ := hg_some hF
  obtain ⟨-, hF⟩ := hg_some hF
  obtain ⟨M25, e25, hF⟩ := hl_some hF
  have hB : bd M25 := by rw [e25]; exact hB.wI
  obtain ⟨-, hF⟩ := hg_some hF
  obtain ⟨-, hF⟩ := hg_some hF
  obtain ⟨M28, e28, hF⟩ := hl_some hF
  have hB : bd M28 := by rw [e28]; exact hB.wI
  obtain ⟨-, hF⟩ := hg_some hF
  obtain ⟨-, hF⟩ := hg_some hF
  obtain ⟨M31, e31, hF⟩ := hl_some hF
  have hB : bd M31 := by rw [e31]; exact hB.wI
  obtain ⟨-, hF⟩ := hg_some hF
  obtain ⟨-, hF⟩ := hg_some hF
  obtain ⟨M34, e34, hF⟩ := hl_some hF
  have hB : bd M34 := by rw [e34]; exact hB.wI
  obtain ⟨-, hF⟩ := hg_some hF
  obtain ⟨-, hF⟩ := hg_some hF
  obtain ⟨M37, e37, hF⟩ := hl_some hF
  have hB : bd M37 := by rw [e37]; exact hB.wI
  obtain ⟨M38, e38, hF⟩ := hl_some hF
  have hB : bd M38 := by rw [e38]; exact hB.wI
  obtain ⟨M39, e39, hF⟩ := hl_some hF
  have hB : bd M39 := by rw [e39]; exact hB.wI
  obtain ⟨M40, e40, hF⟩ := hl_some hF
  have hB : bd M40 := by rw [e40]; exact hB.wR (by omega) (by decide)
  obtain ⟨M41, e41, hF⟩ := hl_some hF
  have hB : bd M41 := by rw [e41]; exact hB.wR (by omega) (by decide)
  obtain ⟨M42, e42, hF⟩ := hl_some hF
  have hB : bd M42 := by rw [e42]; exact hB.wI
  obtain rfl := hr_somev hF
  exact hB
theorem bd_History {l : List hm_Sh} {v0 : Nat} {M M' : hm_M} (hB : bd M) (h0 : v0 < 100) (hl : l.length + 2 < 100) (hF : g_History_init l v0 M = some M') : bd M' := by
  unfold g_History_init at hF
  obtain ⟨M1, e1, hF⟩ := hl_some hF
  have hB : bd M1 := by rw [e1]; exact hB.wR (by omega) (by decide)
  obtain ⟨M2, e2, hF⟩ := hl_some hF
  have hB : bd M2 := by rw [e2]; exact hB.wR (by omega) (by decide)
  obtain ⟨M3, e3, hF⟩ := hl_some hF
  have hB : bd M3 := by rw [e3]; exact hB.wI
  obtain ⟨M4, e4, hF⟩ := hl_some hF
  have hB : bd M4 := by rw [e4]; exact hB.wI
  obtain rfl := hr_somev hF
  exact hB
theorem bd_Rents {l : List hm_Sh} {v0 : Nat} {M M' : hm_M} (hB : bd M) (h0 : v0 < 100) (hl : l.length + 3 < 100) (hF : g_Rents_init l v0 M = some M') : bd M' := by
  unfold g_Rents_init at hF
  obtain ⟨M1, e1, hF⟩ := hl_some hF
  have hB : bd M1 := by rw [e1]; exact hB.wR (by omega) (by decide)
  obtain ⟨M2, e2, hF⟩ := hl_some hF
  have hB : bd M2 := by rw [e2]; exact hB.wR (by omega) (by decide)
  obtain ⟨M3, e3, hF⟩ := hl_some hF
  have hB : bd M3 := by rw [e3]; exact hB.wI
  obtain ⟨M4, e4, hF⟩ := hl_some hF
  have hB : bd M4 := by rw [e4]; exact hB.wI
  obtain ⟨M5, e5, hF⟩ := hl_some hF
  have hB : bd M5 := by rw [e5]; exact hB.wR (by omega) (by decide)
  obtain rfl := hr_somev hF
  exact hB
theorem bd_Trade {l : List hm_Sh} {v0 : Nat} {M M' : hm_M} (hB : bd M) (h0 : v0 < 100) (hl : l.length + 3 < 100) (hF : g_Trade_init l v0 M = some M') : bd M' := by
  unfold g_Trade_init at hF
  obtain ⟨M1, e1, hF⟩ := hl_some hF
  have hB : bd M1 := by rw [e1]; exact hB.wR (by omega) (by decide)
  obtain ⟨M2, e2, hF⟩ := hl_some hF
  have hB : bd M2 := by rw [e2]; exact hB.wR (by omega) (by decide)
  obtain ⟨M3, e3, hF⟩ := hl_some hF
  have hB : bd M3 := by rw [e3]; exact hB.wR (by omega) (by decide)
  obtain ⟨M4, e4, hF⟩ := hl_some hF
  have hB : bd M4 := by rw [e4]; exact hB.wI
  obtain rfl := hr_somev hF
  exact hB
theorem bd_Way {l : List hm_Sh} {v0 : Nat} {M M' : hm_M} (hB : bd M) (h0 : v0 < 100) (hl : l.length + 3 < 100) (hF : g_Way_init l v0 M = some M') : bd M' := by
  unfold g_Way_init at hF
  obtain ⟨M1, e1, hF⟩ := hl_some hF
  have hB : bd M1 := by rw [e1]; exact hB.wR (by omega) (by decide)
  obtain ⟨M2, e2, hF⟩ := hl_some hF
  have hB : bd M2 := by rw [e2]; exact hB.wR (by omega) (by decide)
  obtain ⟨M3, e3, hF⟩ := hl_some hF
  have hB : bd M3 := by rw [e3]; exact hB.wR (by omega) (by decide)
  obtain ⟨M4, e4, hF⟩ := hl_some hF
  have hB : bd M4 := by rw [e4]; exact hB.wI
  obtain rfl := hr_somev hF
  exact hB
theorem bd_Walk {l : List hm_Sh} {v0 : Nat} {M M' : hm_M} (hB : bd M) (h0 : v0 < 100) (hl : l.length + 3 < 100) (hF : g_Walk_init l v0 M = some M') : bd M' := by
  unfold g_Walk_init at hF
  obtain ⟨M1, e1, hF⟩ := hl_some hF
  have hB : bd M1 := by rw [e1]; exact hB.wR (by omega) (by decide)
  obtain ⟨M2, e2, hF⟩ := hl_some hF
  have hB : bd M2 := by rw [e2]; exact hB.wR (by omega) (by decide)
  obtain ⟨M3, e3, hF⟩ := hl_some hF
  have hB : bd M3 := by rw [e3]; exact hB.wR (by omega) (by decide)
  obtain rfl := hr_somev hF
  exact hB
theorem bd_Ps {l : List hm_Sh} {v0 : Nat} {M M' : hm_M} (hB : bd M) (h0 : v0 < 100) (hl : l.length + 74 < 100) (hF : g_Ps_init l v0 M = some M') : bd M' := by
  unfold g_Ps_init at hF
  obtain ⟨M1, e1, hF⟩ := hv_some hF
  have hB : bd M1 := bd_Reader hB (by omega) (by simp only [List.length_append, List.length_cons, List.length_nil]; omega) e1
  obtain ⟨M2, e2, hF⟩ := hl_some hF
  have hB : bd M2 := by rw [e2]; exact hB.wR (by omega) (by decide)
  obtain ⟨M3, e3, hF⟩ := hv_some hF
  have hB : bd M3 := bd_Light hB (by omega) (by simp only [List.length_append, List.length_cons, List.length_nil]; omega) e3
  obtain ⟨M4, e4, hF⟩ := hl_some hF
  have hB : bd M4 := by rw [e4]; exact hB.wR (by omega) (by decide)
  obtain ⟨M5, e5, hF⟩ := hv_some hF
  have hB : bd M5 := bd_Hold hB (by omega) (by simp only [List.length_append, List.length_cons, List.length_nil]; omega) e5
  obtain ⟨M6, e6, hF⟩ := hl_some hF
  have hB : bd M6 := by rw [e6]; exact hB.wR (by omega) (by decide)
  obtain ⟨M7, e7, hF⟩ := hv_some hF
  have hB : bd M7 := bd_History hB (by omega) (by simp only [List.length_append, List.length_cons, List.length_nil]; omega) e7
  obtain ⟨M8, e8, hF⟩ := hl_some hF
  have hB : bd M8 := by rw [e8]; exact hB.wR (by omega) (by decide)
  obtain ⟨M9, e9, hF⟩ := hv_some hF
  have hB : bd M9 := bd_Rents hB (by omega) (by simp only [List.length_append, List.length_cons, List.length_nil]; omega) e9
  obtain ⟨M10, e10, hF⟩ := hl_some hF
  have hB : bd M10 := by rw [e10]; exact hB.wR (by omega) (by decide)
  obtain ⟨M11, e11, hF⟩ := hv_some hF
  have hB : bd M11 := bd_Trade hB (by omega) (by simp only [List.length_append, List.length_cons, List.length_nil]; omega) e11
  obtain ⟨M12, e12, hF⟩ := hl_some hF
  have hB : bd M12 := by rw [e12]; exact hB.wR (by omega) (by decide)
  obtain ⟨M13, e13, hF⟩ := hv_some hF
  have hB : bd M13 := bd_Way hB (by omega) (by simp only [List.length_append, List.length_cons, List.length_nil]; omega) e13
  obtain ⟨M14, e14, hF⟩ := hl_some hF
  have hB : bd M14 := by rw [e14]; exact hB.wR (by omega) (by decide)
  obtain ⟨M15, e15, hF⟩ := hv_some hF
  have hB : bd M15 := bd_Walk hB (by omega) (by simp only [List.length_append, List.length_cons, List.length_nil]; omega) e15
  obtain ⟨M16, e16, hF⟩ := hl_some hF
  have hB : bd M16 := by rw [e16]; exact hB.wR (by omega) (by decide)
  obtain ⟨M17, e17, hF⟩ := hl_some hF
  have hB : bd M17 := by rw [e17]; exact hB.wR (by omega) (by decide)
  obtain ⟨-, hF⟩ := hg_some hF
  obtain ⟨-, hF⟩ := hg_some hF
  obtain ⟨M20, e20, hF⟩ := hv_some hF
  have hB : bd M20 := bd_Hold hB (by omega) (by simp only [List.length_append, List.length_cons, List.length_nil]; omega) e20
  obtain ⟨M21, e21, hF⟩ := hl_some hF
  have hB : bd M21 := by rw [e21]; exact hB.wR (by omega) (by decide)
  obtain ⟨-, hF⟩ := hg_some hF
  obtain ⟨-, hF⟩ := hg_some hF
  obtain ⟨M24, e24, hF⟩ := hv_some hF
  have hB : bd M24 := bd_Hold hB (by omega) (by simp only [List.length_append, List.length_cons, List.length_nil]; omega) e24
  obtain ⟨M25, e25, hF⟩ := hl_some hF
  have hB : bd M25 := by rw [e25]; exact hB.wR (by omega) (by decide)
  obtain ⟨-, hF⟩ := hg_some hF
  obtain ⟨-, hF⟩ := hg_some hF
  obtain ⟨M28, e28, hF⟩ := hv_some hF
  have hB : bd M28 := bd_Hold hB (by omega) (by simp only [List.length_append, List.length_cons, List.length_nil]; omega) e28
  obtain ⟨M29, e29, hF⟩ := hl_some hF
  have hB : bd M29 := by rw [e29]; exact hB.wR (by omega) (by decide)
  obtain ⟨-, hF⟩ := hg_some hF
  obtain ⟨-, hF⟩ := hg_some hF
  obtain ⟨M32, e32, hF⟩ := hv_some hF
  have hB : bd M32 := bd_Hold hB (by omega) (by simp only [List.length_append, List.length_cons, List.length_nil]; omega) e32
  obtain ⟨M33, e33, hF⟩ := hl_some hF
  have hB : bd M33 := by rw [e33]; exact hB.wR (by omega) (by decide)
  obtain ⟨M34, e34, hF⟩ := hl_some hF
  have hB : bd M34 := by rw [e34]; exact hB.wI
  obtain rfl := hr_somev hF
  exact hB
theorem bd_Md {l : List hm_Sh} {v0 : Nat} {M M' : hm_M} (hB : bd M) (h0 : v0 < 100) (hl : l.length + 22 < 100) (hF : g_Md_init l v0 M = some M') : bd M' := by
  unfold g_Md_init at hF
  obtain ⟨M1, e1, hF⟩ := hl_some hF
  have hB : bd M1 := by rw [e1]; exact hB.wR (by omega) (by decide)
  obtain ⟨M2, e2, hF⟩ := hl_some hF
  have hB : bd M2 := by rw [e2]; exact hB.wR (by omega) (by decide)
  obtain ⟨M3, e3, hF⟩ := hl_some hF
  have hB : bd M3 := by rw [e3]; exact hB.wR (by omega) (by decide)
  obtain ⟨M4, e4, hF⟩ := hl_some hF
  have hB : bd M4 := by rw [e4]; exact hB.wR (by omega) (by decide)
  obtain ⟨M5, e5, hF⟩ := hl_some hF
  have hB : bd M5 := by rw [e5]; exact hB.wL
  obtain ⟨M6, e6, hF⟩ := hl_some hF
  have hB : bd M6 := by rw [e6]; exact hB.wL
  obtain ⟨M7, e7, hF⟩ := hl_some hF
  have hB : bd M7 := by rw [e7]; exact hB.wL
  obtain ⟨M8, e8, hF⟩ := hl_some hF
  have hB : bd M8 := by rw [e8]; exact hB.wL
  obtain ⟨M9, e9, hF⟩ := hl_some hF
  have hB : bd M9 := by rw [e9]; exact hB.wL
  obtain ⟨M10, e10, hF⟩ := hl_some hF
  have hB : bd M10 := by rw [e10]; exact hB.wL
  obtain ⟨M11, e11, hF⟩ := hl_some hF
  have hB : bd M11 := by rw [e11]; exact hB.wL
  obtain ⟨M12, e12, hF⟩ := hl_some hF
  have hB : bd M12 := by rw [e12]; exact hB.wL
  obtain ⟨M13, e13, hF⟩ := hl_some hF
  have hB : bd M13 := by rw [e13]; exact hB.wL
  obtain ⟨M14, e14, hF⟩ := hl_some hF
  have hB : bd M14 := by rw [e14]; exact hB.wL
  obtain ⟨M15, e15, hF⟩ := hl_some hF
  have hB : bd M15 := by rw [e15]; exact hB.wL
  obtain ⟨M16, e16, hF⟩ := hl_some hF
  have hB : bd M16 := by rw [e16]; exact hB.wL
  obtain ⟨M17, e17, hF⟩ := hl_some hF
  have hB : bd M17 := by rw [e17]; exact hB.wL
  obtain ⟨M18, e18, hF⟩ := hl_some hF
  have hB : bd M18 := by rw [e18]; exact hB.wL
  obtain ⟨M19, e19, hF⟩ := hl_some hF
  have hB : bd M19 := by rw [e19]; exact hB.wL
  obtain ⟨M20, e20, hF⟩ := hl_some hF
  have hB : bd M20 := by rw [e20]; exact hB.wL
  obtain ⟨M21, e21, hF⟩ := hl_some hF
  have hB : bd M21 := by rw [e21]; exact hB.wL
  obtain ⟨M22, e22, hF⟩ := hl_some hF
  have hB : bd M22 := by rw [e22]; exact hB.wL
  obtain ⟨M23, e23, hF⟩ := hl_some hF
  have hB : bd M23 := by rw [e23]; exact hB.wL
  obtain ⟨M24, e24, hF⟩ := hl_some hF
  have hB : bd M24 := by rw [e24]; exact hB.wL
  obtain ⟨M25, e25, hF⟩ := hl_some hF
  have hB : bd M25 := by rw [e25]; exact hB.wL
  obtain ⟨M26, e26, hF⟩ := hl_some hF
  have hB : bd M26 := by rw [e26]; exact hB.wL
  obtain ⟨M27, e27, hF⟩ := hl_some hF
  have hB : bd M27 := by rw [e27]; exact hB.wR (by omega) (by decide)
  obtain ⟨M28, e28, hF⟩ := hl_some hF
  have hB : bd M28 := by rw [e28]; exact hB.wR (by omega) (by decide)
  obtain ⟨M29, e29, hF⟩ := hl_some hF
  have hB : bd M29 := by rw [e29]; exact hB.wR (by omega) (by decide)
  obtain ⟨M30, e30, hF⟩ := hl_some hF
  have hB : bd M30 := by rw [e30]; exact hB.wR (by omega) (by decide)
  obtain ⟨M31, e31, hF⟩ := hl_some hF
  have hB : bd M31 := by rw [e31]; exact hB.wR (by omega) (by decide)
  obtain ⟨M32, e32, hF⟩ := hl_some hF
  have hB : bd M32 := by rw [e32]; exact hB.wR (by omega) (by decide)
  obtain ⟨M33, e33, hF⟩ := hl_some hF
  have hB : bd M33 := by rw [e33]; exact hB.wR (by omega) (by decide)
  obtain ⟨M34, e34, hF⟩ := hl_some hF
  have hB : bd M34 := by rw [e34]; exact hB.wR (by omega) (by decide)
  obtain ⟨M35, e35, hF⟩ := hl_some hF
  have hB : bd M35 := by rw [e35]; exact hB.wR (by omega) (by decide)
  obtain ⟨M36, e36, hF⟩ := hl_some hF
  have hB : bd M36 := by rw [e36]; exact hB.wR (by omega) (by decide)
  obtain ⟨M37, e37, hF⟩ := hl_some hF
  have hB : bd M37 := by rw [e37]; exact hB.wR (by omega) (by decide)
  obtain ⟨M38, e38, hF⟩ := hl_some hF
  have hB : bd M38 := by rw [e38]; exact hB.wR (by omega) (by decide)
  obtain ⟨M39, e39, hF⟩ := hl_some hF
  have hB : bd M39 := by rw [e39]; exact hB.wR (by omega) (by decide)
  obtain ⟨M40, e40, hF⟩ := hl_some hF
  have hB : bd M40 := by rw [e40]; exact hB.wR (by omega) (by decide)
  obtain ⟨M41, e41, hF⟩ := hl_some hF
  have hB : bd M41 := by rw [e41]; exact hB.wR (by omega) (by decide)
  obtain ⟨M42, e42, hF⟩ := hl_some hF
  have hB : bd M42 := by rw [e42]; exact hB.wR (by omega) (by decide)
  obtain ⟨M43, e43, hF⟩ := hl_some hF
  have hB : bd M43 := by rw [e43]; exact hB.wR (by omega) (by decide)
  obtain ⟨M44, e44, hF⟩ := hl_some hF
  have hB : bd M44 := by rw [e44]; exact hB.wR (by omega) (by decide)
  obtain ⟨-, hF⟩ := hg_some hF
  obtain ⟨-, hF⟩ := hg_some hF
  obtain ⟨M47, e47, hF⟩ := hl_some hF
  have hB : bd M47 := by rw [e47]; exact hB.wI
  obtain ⟨-, hF⟩ := hg_some hF
  obtain ⟨-, hF⟩ := hg_some hF
  obtain ⟨M50, e50, hF⟩ := hl_some hF
  have hB : bd M50 := by rw [e50]; exact hB.wI
  obtain ⟨-, hF⟩ := hg_some hF
  obtain ⟨-, hF⟩ := hg_some hF
  obtain ⟨M53, e53, hF⟩ := hl_some hF
  have hB : bd M53 := by rw [e53]; exact hB.wI
  obtain ⟨-, hF⟩ := hg_some hF
  obtain ⟨-, hF⟩ := hg_some hF
  obtain ⟨M56, e56, hF⟩ := hl_some hF
  have hB : bd M56 := by rw [e56]; exact hB.wI
  obtain ⟨-, hF⟩ := hg_some hF
  obtain ⟨-, hF⟩ := hg_some hF
  obtain ⟨M59, e59, hF⟩ := hl_some hF
  have hB : bd M59 := by rw [e59]; exact hB.wI
  obtain ⟨-, hF⟩ := hg_some hF
  obtain ⟨-, hF⟩ := hg_some hF
  obtain ⟨M62, e62, hF⟩ := hl_some hF
  have hB : bd M62 := by rw [e62]; exact hB.wI
  obtain rfl := hr_somev hF
  exact hB
