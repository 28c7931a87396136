/-! WHAT THE PURE PART MUST SHOW: both sides answer alike and keep J; the law's loop out of it (by program) -/
theorem hm_ofN {i : Nat} (h : i ≤ 4000) : (Int32.ofNat i).toInt = (i : Int) := by
  rw [Int32.toInt_ofNat_of_lt (by omega)]
theorem hm_addN {i : Nat} (h : i ≤ 4000) {c : Nat} (hc : c ≤ 7) : Int32.ofNat i + Int32.ofNat c = Int32.ofNat (i + c) := by
  rw [← Int32.ofNat_add]
theorem hm_tn {i : Nat} (h : i ≤ 4000) : (Int32.ofNat i).toNatClampNeg = i := by
  have := hm_ofN h
  unfold Int32.toNatClampNeg
  omega
theorem hm_inN {i L : Nat} (h : i ≤ 4000) (hi : i < L) : hm_in (Int32.ofNat i) L = true := by
  unfold hm_in
  rw [hm_tn h]
  have := hm_ofN h
  simp only [Bool.and_eq_true, decide_eq_true_eq]
  exact ⟨Int32.le_iff_toInt_le.mpr (by rw [this]; exact Int.natCast_nonneg i), hi⟩

theorem hm_last {i L : Nat} (hL4 : L ≤ 3584) (hi : i ≤ L + 7) (h : L < i + 7) : Int32.ofNat L - (7 : Int32) < Int32.ofNat i := by
  have h1 := hm_ofN (i := L) (by omega)
  have h2 := hm_ofN (i := i) (by omega)
  rw [Int32.lt_iff_toInt_lt, Int32.toInt_sub, h1, h2]
  have h3 : (7 : Int32).toInt = 7 := by decide
  rw [h3, Int.bmod_eq_of_le (by omega) (by omega)]
  omega
def pJ_feed (S : hm_S) (J : hm_M → Prop) : Prop := ∀ (a1 a2 a3 : Int64) (M : hm_M), J M → ∃ (r : Int32) (M1 M2 : hm_M), f_Ps_feed S 1 a1 a2 a3 M = some (r, M1) ∧ f_Md_feed S 76 a1 a2 a3 M1 = some (r, M2) ∧ J M2
def pJ_chapel (S : hm_S) (J : hm_M → Prop) : Prop := ∀ (M : hm_M), J M → ∃ (r : Int32) (M1 M2 : hm_M), f_Ps_chapel S 1 M = some (r, M1) ∧ f_Md_chapel S 76 M1 = some (r, M2) ∧ J M2
def pJ_guild (S : hm_S) (J : hm_M → Prop) : Prop := ∀ (a1 a2 : Int32) (M : hm_M), J M → ∃ (r : Int32) (M1 M2 : hm_M), f_Ps_guild S 1 a1 a2 M = some (r, M1) ∧ f_Md_guild S 76 a1 a2 M1 = some (r, M2) ∧ J M2
def pJ_pane (S : hm_S) (J : hm_M → Prop) : Prop := ∀ (a1 a2 : Int32) (M : hm_M), J M → ∃ (r : Int32) (M1 M2 : hm_M), f_Ps_pane S 1 a1 a2 M = some (r, M1) ∧ f_Md_pane S 76 a1 a2 M1 = some (r, M2) ∧ J M2
def pJ_spot (S : hm_S) (J : hm_M → Prop) : Prop := ∀ (a1 a2 a3 : Int32) (M : hm_M), J M → ∃ (r : Int32) (M1 M2 : hm_M), f_Ps_spot S 1 a1 a2 a3 M = some (r, M1) ∧ f_Md_spot S 76 a1 a2 a3 M1 = some (r, M2) ∧ J M2
def pJ_place (S : hm_S) (J : hm_M → Prop) : Prop := ∀ (a1 a2 a3 a4 a5 : Int32) (M : hm_M), J M → ∃ (r : Int32) (M1 M2 : hm_M), f_Ps_place S 1 a1 a2 a3 a4 a5 M = some (r, M1) ∧ f_Md_place S 76 a1 a2 a3 a4 a5 M1 = some (r, M2) ∧ J M2
def pJ_yields (S : hm_S) (J : hm_M → Prop) : Prop := ∀ (a1 : Int32) (M : hm_M), J M → ∃ (r : Int32) (M1 M2 : hm_M), f_Ps_yields S 1 a1 M = some (r, M1) ∧ f_Md_yields S 76 a1 M1 = some (r, M2) ∧ J M2
def pJ_rents (S : hm_S) (J : hm_M → Prop) : Prop := ∀ (a1 : Int32) (M : hm_M), J M → ∃ (r : Int32) (M1 M2 : hm_M), f_Ps_rents S 1 a1 M = some (r, M1) ∧ f_Md_rents S 76 a1 M1 = some (r, M2) ∧ J M2
def pJ_worth (S : hm_S) (J : hm_M → Prop) : Prop := ∀ (a1 a2 : Int32) (M : hm_M), J M → ∃ (r : Int32) (M1 M2 : hm_M), f_Ps_worth S 1 a1 a2 M = some (r, M1) ∧ f_Md_worth S 76 a1 a2 M1 = some (r, M2) ∧ J M2
def pJ_gain (S : hm_S) (J : hm_M → Prop) : Prop := ∀ (a1 a2 : Int32) (M : hm_M), J M → ∃ (r : Int32) (M1 M2 : hm_M), f_Ps_gain S 1 a1 a2 M = some (r, M1) ∧ f_Md_gain S 76 a1 a2 M1 = some (r, M2) ∧ J M2
def pJ_best (S : hm_S) (J : hm_M → Prop) : Prop := ∀ (a1 : Int32) (M : hm_M), J M → ∃ (r : Int32) (M1 M2 : hm_M), f_Ps_best S 1 a1 M = some (r, M1) ∧ f_Md_best S 76 a1 M1 = some (r, M2) ∧ J M2
def pJ_exchange (S : hm_S) (J : hm_M → Prop) : Prop := ∀ (a1 a2 : Int32) (M : hm_M), J M → ∃ (r : Int32) (M1 M2 : hm_M), f_Ps_exchange S 1 a1 a2 M = some (r, M1) ∧ f_Md_exchange S 76 a1 a2 M1 = some (r, M2) ∧ J M2
def pJ_breaks (S : hm_S) (J : hm_M → Prop) : Prop := ∀ (a1 a2 : Int32) (M : hm_M), (a2 = 0 ∨ a2 = 1) → J M → ∃ (r : Int32) (M1 M2 : hm_M), f_Ps_breaks S 1 a1 a2 M = some (r, M1) ∧ f_Md_breaks S 76 a1 a2 M1 = some (r, M2) ∧ J M2
def pJ_fallen (S : hm_S) (J : hm_M → Prop) : Prop := ∀ (M : hm_M), J M → ∃ (r : Int32) (M1 M2 : hm_M), f_Ps_fallen S 1 M = some (r, M1) ∧ f_Md_fallen S 76 M1 = some (r, M2) ∧ J M2
def pJ_falls (S : hm_S) (J : hm_M → Prop) : Prop := ∀ (a1 : Int32) (M : hm_M), J M → ∃ (r : Int32) (M1 M2 : hm_M), f_Ps_falls S 1 a1 M = some (r, M1) ∧ f_Md_falls S 76 a1 M1 = some (r, M2) ∧ J M2
def pJ_undo (S : hm_S) (J : hm_M → Prop) : Prop := ∀ (M : hm_M), J M → ∃ (r : Int32) (M1 M2 : hm_M), f_Ps_undo S 1 M = some (r, M1) ∧ f_Md_undo S 76 M1 = some (r, M2) ∧ J M2
def pJ_stall (S : hm_S) (J : hm_M → Prop) : Prop := ∀ (a1 a2 a3 a4 a5 : Int32) (M : hm_M), J M → ∃ (r : Int32) (M1 M2 : hm_M), f_Ps_stall S 1 a1 a2 a3 a4 a5 M = some (r, M1) ∧ f_Md_stall S 76 a1 a2 a3 a4 a5 M1 = some (r, M2) ∧ J M2
def pJ_see (S : hm_S) (J : hm_M → Prop) : Prop := ∀ (a1 a2 a3 : Int32) (M : hm_M), J M → ∃ (r : Int32) (M1 M2 : hm_M), f_Ps_see S 1 a1 a2 a3 M = some (r, M1) ∧ f_Md_see S 76 a1 a2 a3 M1 = some (r, M2) ∧ J M2
def pJ_candles (S : hm_S) (J : hm_M → Prop) : Prop := ∀ (a1 a2 : Int32) (M : hm_M), J M → ∃ (r : Int32) (M1 M2 : hm_M), f_Ps_candles S 1 a1 a2 M = some (r, M1) ∧ f_Md_candles S 76 a1 a2 M1 = some (r, M2) ∧ J M2
def pJ_when (S : hm_S) (J : hm_M → Prop) : Prop := ∀ (a1 : Int32) (M : hm_M), J M → ∃ (r : Int32) (M1 M2 : hm_M), f_Ps_when S 1 a1 M = some (r, M1) ∧ f_Md_when S 76 a1 M1 = some (r, M2) ∧ J M2
def pJ_clear (S : hm_S) (J : hm_M → Prop) : Prop := ∀ (M : hm_M), J M → ∃ (r : Int32) (M1 M2 : hm_M), f_Ps_clear S 1 M = some (r, M1) ∧ f_Md_clear S 76 M1 = some (r, M2) ∧ J M2
def pJ_stains (S : hm_S) (J : hm_M → Prop) : Prop := ∀ (a1 a2 a3 a4 : Int32) (M : hm_M), J M → ∃ (r : Int32) (M1 M2 : hm_M), f_Ps_stains S 1 a1 a2 a3 a4 M = some (r, M1) ∧ f_Md_stains S 76 a1 a2 a3 a4 M1 = some (r, M2) ∧ J M2
def pJ_stood (S : hm_S) (J : hm_M → Prop) : Prop := ∀ (a1 a2 a3 a4 a5 a6 : Int32) (M : hm_M), (a6 = 0 ∨ a6 = 1) → J M → ∃ (r : Int32) (M1 M2 : hm_M), f_Ps_stood S 1 a1 a2 a3 a4 a5 a6 M = some (r, M1) ∧ f_Md_stood S 76 a1 a2 a3 a4 a5 a6 M1 = some (r, M2) ∧ J M2
def pJ_mark (S : hm_S) (J : hm_M → Prop) : Prop := ∀ (a1 a2 : Int32) (M : hm_M), (a2 = 0 ∨ a2 = 1) → J M → ∃ (r : Int32) (M1 M2 : hm_M), f_Ps_mark S 1 a1 a2 M = some (r, M1) ∧ f_Md_mark S 76 a1 a2 M1 = some (r, M2) ∧ J M2
def pJ_count (S : hm_S) (J : hm_M → Prop) : Prop := ∀ (a1 : Int32) (M : hm_M), J M → ∃ (r : Int32) (M1 M2 : hm_M), f_Ps_count S 1 a1 M = some (r, M1) ∧ f_Md_count S 76 a1 M1 = some (r, M2) ∧ J M2
/-- clouded: either both answer, or the one throws and the other says so -/
def pJ_clouded (S : hm_S) (J : hm_M → Prop) : Prop := ∀ (a1 a2 : Int32) (M : hm_M), J M →
  (∃ (r : Int32) (M1 M2 M3 : hm_M), f_Ps_clouded S 1 a1 a2 M = some (r, M1) ∧ f_Md_clouded S 76 a1 a2 (hm_wL M1 99 0 r.toInt64) = some (r, M2) ∧ f_Md_thrown S 76 M2 = some (0, M3) ∧ M3.2.1 99 0 = r.toInt64 ∧ J M3) ∨
  (hm_badA S 1 a1 a2 M ∧ ∃ (r : Int32) (M2 M3 : hm_M), f_Md_clouded S 76 a1 a2 M = some (r, M2) ∧ f_Md_thrown S 76 M2 = some (1, M3) ∧ J M3)
theorem pL_0 {S : hm_S} {J : hm_M → Prop} (h1 : S 1 = some (.inr 11)) (h76 : S 76 = some (.inr 12)) (h : pJ_feed S J) {xs : Nat → Int32} {L : Nat} {i : Int32} (i1 : hm_in (i + (1 : Int32)) L = true) (i2 : hm_in (i + (2 : Int32)) L = true) (i3 : hm_in (i + (3 : Int32)) L = true) (i4 : hm_in (i + (4 : Int32)) L = true) (i5 : hm_in (i + (5 : Int32)) L = true) (i6 : hm_in (i + (6 : Int32)) L = true) {M : hm_M} (hJ : J M) : ∃ M', fL_0 S xs L i M = some M' ∧ J M' := by
  obtain ⟨r, M1, M2, e1, e2, e3⟩ := h _ _ _ M hJ
  exact ⟨M2, by simp only [fL_0, hg_pos h1, hg_pos h76, hg_pos i1, hg_pos i2, hg_pos i3, hg_pos i4, hg_pos i5, hg_pos i6]; rw [e1, hb_some', e2, hb_some', if_pos rfl], e3⟩
theorem pL_1 {S : hm_S} {J : hm_M → Prop} (h1 : S 1 = some (.inr 11)) (h76 : S 76 = some (.inr 12)) (h : pJ_chapel S J) {xs : Nat → Int32} {L : Nat} {i : Int32}  {M : hm_M} (hJ : J M) : ∃ M', fL_1 S xs L i M = some M' ∧ J M' := by
  obtain ⟨r, M1, M2, e1, e2, e3⟩ := h M hJ
  exact ⟨M2, by simp only [fL_1, hg_pos h1, hg_pos h76]; rw [e1, hb_some', e2, hb_some', if_pos rfl], e3⟩
theorem pL_2 {S : hm_S} {J : hm_M → Prop} (h1 : S 1 = some (.inr 11)) (h76 : S 76 = some (.inr 12)) (h : pJ_guild S J) {xs : Nat → Int32} {L : Nat} {i : Int32} (i1 : hm_in (i + (1 : Int32)) L = true) (i2 : hm_in (i + (2 : Int32)) L = true) {M : hm_M} (hJ : J M) : ∃ M', fL_2 S xs L i M = some M' ∧ J M' := by
  obtain ⟨r, M1, M2, e1, e2, e3⟩ := h _ _ M hJ
  exact ⟨M2, by simp only [fL_2, hg_pos h1, hg_pos h76, hg_pos i1, hg_pos i2]; rw [e1, hb_some', e2, hb_some', if_pos rfl], e3⟩
theorem pL_3 {S : hm_S} {J : hm_M → Prop} (h1 : S 1 = some (.inr 11)) (h76 : S 76 = some (.inr 12)) (h : pJ_pane S J) {xs : Nat → Int32} {L : Nat} {i : Int32} (i1 : hm_in (i + (1 : Int32)) L = true) (i2 : hm_in (i + (2 : Int32)) L = true) {M : hm_M} (hJ : J M) : ∃ M', fL_3 S xs L i M = some M' ∧ J M' := by
  obtain ⟨r, M1, M2, e1, e2, e3⟩ := h _ _ M hJ
  exact ⟨M2, by simp only [fL_3, hg_pos h1, hg_pos h76, hg_pos i1, hg_pos i2]; rw [e1, hb_some', e2, hb_some', if_pos rfl], e3⟩
theorem pL_4 {S : hm_S} {J : hm_M → Prop} (h1 : S 1 = some (.inr 11)) (h76 : S 76 = some (.inr 12)) (h : pJ_spot S J) {xs : Nat → Int32} {L : Nat} {i : Int32} (i1 : hm_in (i + (1 : Int32)) L = true) (i2 : hm_in (i + (2 : Int32)) L = true) (i3 : hm_in (i + (3 : Int32)) L = true) {M : hm_M} (hJ : J M) : ∃ M', fL_4 S xs L i M = some M' ∧ J M' := by
  obtain ⟨r, M1, M2, e1, e2, e3⟩ := h _ _ _ M hJ
  exact ⟨M2, by simp only [fL_4, hg_pos h1, hg_pos h76, hg_pos i1, hg_pos i2, hg_pos i3]; rw [e1, hb_some', e2, hb_some', if_pos rfl], e3⟩
theorem pL_5 {S : hm_S} {J : hm_M → Prop} (h1 : S 1 = some (.inr 11)) (h76 : S 76 = some (.inr 12)) (h : pJ_place S J) {xs : Nat → Int32} {L : Nat} {i : Int32} (i1 : hm_in (i + (1 : Int32)) L = true) (i2 : hm_in (i + (2 : Int32)) L = true) (i3 : hm_in (i + (3 : Int32)) L = true) (i4 : hm_in (i + (4 : Int32)) L = true) (i5 : hm_in (i + (5 : Int32)) L = true) {M : hm_M} (hJ : J M) : ∃ M', fL_5 S xs L i M = some M' ∧ J M' := by
  obtain ⟨r, M1, M2, e1, e2, e3⟩ := h _ _ _ _ _ M hJ
  exact ⟨M2, by simp only [fL_5, hg_pos h1, hg_pos h76, hg_pos i1, hg_pos i2, hg_pos i3, hg_pos i4, hg_pos i5]; rw [e1, hb_some', e2, hb_some', if_pos rfl], e3⟩
theorem pL_6 {S : hm_S} {J : hm_M → Prop} (h1 : S 1 = some (.inr 11)) (h76 : S 76 = some (.inr 12)) (h : pJ_yields S J) {xs : Nat → Int32} {L : Nat} {i : Int32} (i1 : hm_in (i + (1 : Int32)) L = true) {M : hm_M} (hJ : J M) : ∃ M', fL_6 S xs L i M = some M' ∧ J M' := by
  obtain ⟨r, M1, M2, e1, e2, e3⟩ := h _ M hJ
  exact ⟨M2, by simp only [fL_6, hg_pos h1, hg_pos h76, hg_pos i1]; rw [e1, hb_some', e2, hb_some', if_pos rfl], e3⟩
theorem pL_7 {S : hm_S} {J : hm_M → Prop} (h1 : S 1 = some (.inr 11)) (h76 : S 76 = some (.inr 12)) (h : pJ_rents S J) {xs : Nat → Int32} {L : Nat} {i : Int32} (i1 : hm_in (i + (1 : Int32)) L = true) {M : hm_M} (hJ : J M) : ∃ M', fL_7 S xs L i M = some M' ∧ J M' := by
  obtain ⟨r, M1, M2, e1, e2, e3⟩ := h _ M hJ
  exact ⟨M2, by simp only [fL_7, hg_pos h1, hg_pos h76, hg_pos i1]; rw [e1, hb_some', e2, hb_some', if_pos rfl], e3⟩
theorem pL_8 {S : hm_S} {J : hm_M → Prop} (h1 : S 1 = some (.inr 11)) (h76 : S 76 = some (.inr 12)) (h : pJ_worth S J) {xs : Nat → Int32} {L : Nat} {i : Int32} (i1 : hm_in (i + (1 : Int32)) L = true) (i2 : hm_in (i + (2 : Int32)) L = true) {M : hm_M} (hJ : J M) : ∃ M', fL_8 S xs L i M = some M' ∧ J M' := by
  obtain ⟨r, M1, M2, e1, e2, e3⟩ := h _ _ M hJ
  exact ⟨M2, by simp only [fL_8, hg_pos h1, hg_pos h76, hg_pos i1, hg_pos i2]; rw [e1, hb_some', e2, hb_some', if_pos rfl], e3⟩
theorem pL_9 {S : hm_S} {J : hm_M → Prop} (h1 : S 1 = some (.inr 11)) (h76 : S 76 = some (.inr 12)) (h : pJ_gain S J) {xs : Nat → Int32} {L : Nat} {i : Int32} (i1 : hm_in (i + (1 : Int32)) L = true) (i2 : hm_in (i + (2 : Int32)) L = true) {M : hm_M} (hJ : J M) : ∃ M', fL_9 S xs L i M = some M' ∧ J M' := by
  obtain ⟨r, M1, M2, e1, e2, e3⟩ := h _ _ M hJ
  exact ⟨M2, by simp only [fL_9, hg_pos h1, hg_pos h76, hg_pos i1, hg_pos i2]; rw [e1, hb_some', e2, hb_some', if_pos rfl], e3⟩
theorem pL_10 {S : hm_S} {J : hm_M → Prop} (h1 : S 1 = some (.inr 11)) (h76 : S 76 = some (.inr 12)) (h : pJ_best S J) {xs : Nat → Int32} {L : Nat} {i : Int32} (i1 : hm_in (i + (1 : Int32)) L = true) {M : hm_M} (hJ : J M) : ∃ M', fL_10 S xs L i M = some M' ∧ J M' := by
  obtain ⟨r, M1, M2, e1, e2, e3⟩ := h _ M hJ
  exact ⟨M2, by simp only [fL_10, hg_pos h1, hg_pos h76, hg_pos i1]; rw [e1, hb_some', e2, hb_some', if_pos rfl], e3⟩
theorem pL_11 {S : hm_S} {J : hm_M → Prop} (h1 : S 1 = some (.inr 11)) (h76 : S 76 = some (.inr 12)) (h : pJ_exchange S J) {xs : Nat → Int32} {L : Nat} {i : Int32} (i1 : hm_in (i + (1 : Int32)) L = true) (i2 : hm_in (i + (2 : Int32)) L = true) {M : hm_M} (hJ : J M) : ∃ M', fL_11 S xs L i M = some M' ∧ J M' := by
  obtain ⟨r, M1, M2, e1, e2, e3⟩ := h _ _ M hJ
  exact ⟨M2, by simp only [fL_11, hg_pos h1, hg_pos h76, hg_pos i1, hg_pos i2]; rw [e1, hb_some', e2, hb_some', if_pos rfl], e3⟩
theorem pL_12 {S : hm_S} {J : hm_M → Prop} (h1 : S 1 = some (.inr 11)) (h76 : S 76 = some (.inr 12)) (h : pJ_breaks S J) {xs : Nat → Int32} {L : Nat} {i : Int32} (i1 : hm_in (i + (1 : Int32)) L = true) (i2 : hm_in (i + (2 : Int32)) L = true) {M : hm_M} (hJ : J M) : ∃ M', fL_12 S xs L i M = some M' ∧ J M' := by
  by_cases hb : (xs (i + (2 : Int32)).toNatClampNeg) = 0
  · obtain ⟨r, M1, M2, e1, e2, e3⟩ := h (xs (i + (1 : Int32)).toNatClampNeg) 0 M (Or.inl rfl) hJ
    exact ⟨M2, by simp only [fL_12, hg_pos h1, hg_pos h76, hg_pos i1, hg_pos i2, if_pos hb, e1, e2, hb_some', if_pos rfl, if_true], e3⟩
  · obtain ⟨r, M1, M2, e1, e2, e3⟩ := h (xs (i + (1 : Int32)).toNatClampNeg) 1 M (Or.inr rfl) hJ
    exact ⟨M2, by simp only [fL_12, hg_pos h1, hg_pos h76, hg_pos i1, hg_pos i2, if_neg hb, e1, e2, hb_some', if_pos rfl, if_true], e3⟩
theorem pL_13 {S : hm_S} {J : hm_M → Prop} (h1 : S 1 = some (.inr 11)) (h76 : S 76 = some (.inr 12)) (h : pJ_fallen S J) {xs : Nat → Int32} {L : Nat} {i : Int32}  {M : hm_M} (hJ : J M) : ∃ M', fL_13 S xs L i M = some M' ∧ J M' := by
  obtain ⟨r, M1, M2, e1, e2, e3⟩ := h M hJ
  exact ⟨M2, by simp only [fL_13, hg_pos h1, hg_pos h76]; rw [e1, hb_some', e2, hb_some', if_pos rfl], e3⟩
theorem pL_14 {S : hm_S} {J : hm_M → Prop} (h1 : S 1 = some (.inr 11)) (h76 : S 76 = some (.inr 12)) (h : pJ_falls S J) {xs : Nat → Int32} {L : Nat} {i : Int32} (i1 : hm_in (i + (1 : Int32)) L = true) {M : hm_M} (hJ : J M) : ∃ M', fL_14 S xs L i M = some M' ∧ J M' := by
  obtain ⟨r, M1, M2, e1, e2, e3⟩ := h _ M hJ
  exact ⟨M2, by simp only [fL_14, hg_pos h1, hg_pos h76, hg_pos i1]; rw [e1, hb_some', e2, hb_some', if_pos rfl], e3⟩
theorem pL_15 {S : hm_S} {J : hm_M → Prop} (h1 : S 1 = some (.inr 11)) (h76 : S 76 = some (.inr 12)) (h : pJ_undo S J) {xs : Nat → Int32} {L : Nat} {i : Int32}  {M : hm_M} (hJ : J M) : ∃ M', fL_15 S xs L i M = some M' ∧ J M' := by
  obtain ⟨r, M1, M2, e1, e2, e3⟩ := h M hJ
  exact ⟨M2, by simp only [fL_15, hg_pos h1, hg_pos h76]; rw [e1, hb_some', e2, hb_some', if_pos rfl], e3⟩
theorem pL_16 {S : hm_S} {J : hm_M → Prop} (h1 : S 1 = some (.inr 11)) (h76 : S 76 = some (.inr 12)) (h : pJ_stall S J) {xs : Nat → Int32} {L : Nat} {i : Int32} (i1 : hm_in (i + (1 : Int32)) L = true) (i2 : hm_in (i + (2 : Int32)) L = true) (i3 : hm_in (i + (3 : Int32)) L = true) (i4 : hm_in (i + (4 : Int32)) L = true) (i5 : hm_in (i + (5 : Int32)) L = true) {M : hm_M} (hJ : J M) : ∃ M', fL_16 S xs L i M = some M' ∧ J M' := by
  obtain ⟨r, M1, M2, e1, e2, e3⟩ := h _ _ _ _ _ M hJ
  exact ⟨M2, by simp only [fL_16, hg_pos h1, hg_pos h76, hg_pos i1, hg_pos i2, hg_pos i3, hg_pos i4, hg_pos i5]; rw [e1, hb_some', e2, hb_some', if_pos rfl], e3⟩
theorem pL_17 {S : hm_S} {J : hm_M → Prop} (h1 : S 1 = some (.inr 11)) (h76 : S 76 = some (.inr 12)) (h : pJ_see S J) {xs : Nat → Int32} {L : Nat} {i : Int32} (i1 : hm_in (i + (1 : Int32)) L = true) (i2 : hm_in (i + (2 : Int32)) L = true) (i3 : hm_in (i + (3 : Int32)) L = true) {M : hm_M} (hJ : J M) : ∃ M', fL_17 S xs L i M = some M' ∧ J M' := by
  obtain ⟨r, M1, M2, e1, e2, e3⟩ := h _ _ _ M hJ
  exact ⟨M2, by simp only [fL_17, hg_pos h1, hg_pos h76, hg_pos i1, hg_pos i2, hg_pos i3]; rw [e1, hb_some', e2, hb_some', if_pos rfl], e3⟩
theorem pL_18 {S : hm_S} {J : hm_M → Prop} (h1 : S 1 = some (.inr 11)) (h76 : S 76 = some (.inr 12)) (h : pJ_candles S J) {xs : Nat → Int32} {L : Nat} {i : Int32} (i1 : hm_in (i + (1 : Int32)) L = true) (i2 : hm_in (i + (2 : Int32)) L = true) {M : hm_M} (hJ : J M) : ∃ M', fL_18 S xs L i M = some M' ∧ J M' := by
  obtain ⟨r, M1, M2, e1, e2, e3⟩ := h _ _ M hJ
  exact ⟨M2, by simp only [fL_18, hg_pos h1, hg_pos h76, hg_pos i1, hg_pos i2]; rw [e1, hb_some', e2, hb_some', if_pos rfl], e3⟩
theorem pL_19 {S : hm_S} {J : hm_M → Prop} (h1 : S 1 = some (.inr 11)) (h76 : S 76 = some (.inr 12)) (h : pJ_when S J) {xs : Nat → Int32} {L : Nat} {i : Int32} (i1 : hm_in (i + (1 : Int32)) L = true) {M : hm_M} (hJ : J M) : ∃ M', fL_19 S xs L i M = some M' ∧ J M' := by
  obtain ⟨r, M1, M2, e1, e2, e3⟩ := h _ M hJ
  exact ⟨M2, by simp only [fL_19, hg_pos h1, hg_pos h76, hg_pos i1]; rw [e1, hb_some', e2, hb_some', if_pos rfl], e3⟩
theorem pL_20 {S : hm_S} {J : hm_M → Prop} (h1 : S 1 = some (.inr 11)) (h76 : S 76 = some (.inr 12)) (h : pJ_clear S J) {xs : Nat → Int32} {L : Nat} {i : Int32}  {M : hm_M} (hJ : J M) : ∃ M', fL_20 S xs L i M = some M' ∧ J M' := by
  obtain ⟨r, M1, M2, e1, e2, e3⟩ := h M hJ
  exact ⟨M2, by simp only [fL_20, hg_pos h1, hg_pos h76]; rw [e1, hb_some', e2, hb_some', if_pos rfl], e3⟩
theorem pL_21 {S : hm_S} {J : hm_M → Prop} (h1 : S 1 = some (.inr 11)) (h76 : S 76 = some (.inr 12)) (h : pJ_stains S J) {xs : Nat → Int32} {L : Nat} {i : Int32} (i1 : hm_in (i + (1 : Int32)) L = true) (i2 : hm_in (i + (2 : Int32)) L = true) (i3 : hm_in (i + (3 : Int32)) L = true) (i4 : hm_in (i + (4 : Int32)) L = true) {M : hm_M} (hJ : J M) : ∃ M', fL_21 S xs L i M = some M' ∧ J M' := by
  obtain ⟨r, M1, M2, e1, e2, e3⟩ := h _ _ _ _ M hJ
  exact ⟨M2, by simp only [fL_21, hg_pos h1, hg_pos h76, hg_pos i1, hg_pos i2, hg_pos i3, hg_pos i4]; rw [e1, hb_some', e2, hb_some', if_pos rfl], e3⟩
theorem pL_22 {S : hm_S} {J : hm_M → Prop} (h1 : S 1 = some (.inr 11)) (h76 : S 76 = some (.inr 12)) (h : pJ_stood S J) {xs : Nat → Int32} {L : Nat} {i : Int32} (i1 : hm_in (i + (1 : Int32)) L = true) (i2 : hm_in (i + (2 : Int32)) L = true) (i3 : hm_in (i + (3 : Int32)) L = true) (i4 : hm_in (i + (4 : Int32)) L = true) (i5 : hm_in (i + (5 : Int32)) L = true) (i6 : hm_in (i + (6 : Int32)) L = true) {M : hm_M} (hJ : J M) : ∃ M', fL_22 S xs L i M = some M' ∧ J M' := by
  by_cases hb : (xs (i + (6 : Int32)).toNatClampNeg) = 0
  · obtain ⟨r, M1, M2, e1, e2, e3⟩ := h (xs (i + (1 : Int32)).toNatClampNeg) (xs (i + (2 : Int32)).toNatClampNeg) (xs (i + (3 : Int32)).toNatClampNeg) (xs (i + (4 : Int32)).toNatClampNeg) (xs (i + (5 : Int32)).toNatClampNeg) 0 M (Or.inl rfl) hJ
    exact ⟨M2, by simp only [fL_22, hg_pos h1, hg_pos h76, hg_pos i1, hg_pos i2, hg_pos i3, hg_pos i4, hg_pos i5, hg_pos i6, if_pos hb, e1, e2, hb_some', if_pos rfl, if_true], e3⟩
  · obtain ⟨r, M1, M2, e1, e2, e3⟩ := h (xs (i + (1 : Int32)).toNatClampNeg) (xs (i + (2 : Int32)).toNatClampNeg) (xs (i + (3 : Int32)).toNatClampNeg) (xs (i + (4 : Int32)).toNatClampNeg) (xs (i + (5 : Int32)).toNatClampNeg) 1 M (Or.inr rfl) hJ
    exact ⟨M2, by simp only [fL_22, hg_pos h1, hg_pos h76, hg_pos i1, hg_pos i2, hg_pos i3, hg_pos i4, hg_pos i5, hg_pos i6, if_neg hb, e1, e2, hb_some', if_pos rfl, if_true], e3⟩
theorem pL_24 {S : hm_S} {J : hm_M → Prop} (h1 : S 1 = some (.inr 11)) (h76 : S 76 = some (.inr 12)) (h : pJ_mark S J) {xs : Nat → Int32} {L : Nat} {i : Int32} (i1 : hm_in (i + (1 : Int32)) L = true) (i2 : hm_in (i + (2 : Int32)) L = true) {M : hm_M} (hJ : J M) : ∃ M', fL_24 S xs L i M = some M' ∧ J M' := by
  by_cases hb : (xs (i + (2 : Int32)).toNatClampNeg) = 0
  · obtain ⟨r, M1, M2, e1, e2, e3⟩ := h (xs (i + (1 : Int32)).toNatClampNeg) 0 M (Or.inl rfl) hJ
    exact ⟨M2, by simp only [fL_24, hg_pos h1, hg_pos h76, hg_pos i1, hg_pos i2, if_pos hb, e1, e2, hb_some', if_pos rfl, if_true], e3⟩
  · obtain ⟨r, M1, M2, e1, e2, e3⟩ := h (xs (i + (1 : Int32)).toNatClampNeg) 1 M (Or.inr rfl) hJ
    exact ⟨M2, by simp only [fL_24, hg_pos h1, hg_pos h76, hg_pos i1, hg_pos i2, if_neg hb, e1, e2, hb_some', if_pos rfl, if_true], e3⟩
theorem pL_25 {S : hm_S} {J : hm_M → Prop} (h1 : S 1 = some (.inr 11)) (h76 : S 76 = some (.inr 12)) (h : pJ_count S J) {xs : Nat → Int32} {L : Nat} {i : Int32} (i1 : hm_in (i + (1 : Int32)) L = true) {M : hm_M} (hJ : J M) : ∃ M', fL_25 S xs L i M = some M' ∧ J M' := by
  obtain ⟨r, M1, M2, e1, e2, e3⟩ := h _ M hJ
  exact ⟨M2, by simp only [fL_25, hg_pos h1, hg_pos h76, hg_pos i1]; rw [e1, hb_some', e2, hb_some', if_pos rfl], e3⟩
theorem lg_cmp_self (x : Int64) : lg_cmp x x = 0 := by
  unfold lg_cmp
  simp
set_option maxRecDepth 100000 in
set_option maxHeartbeats 4000000 in
theorem law_step {S : hm_S} {J : hm_M → Prop} (hs1 : S 1 = some (.inr 11)) (hs76 : S 76 = some (.inr 12)) (hs99 : S 99 = some (.inl (.long, 1))) (p_feed : pJ_feed S J) (p_chapel : pJ_chapel S J) (p_guild : pJ_guild S J) (p_pane : pJ_pane S J) (p_spot : pJ_spot S J) (p_place : pJ_place S J) (p_yields : pJ_yields S J) (p_rents : pJ_rents S J) (p_worth : pJ_worth S J) (p_gain : pJ_gain S J) (p_best : pJ_best S J) (p_exchange : pJ_exchange S J) (p_breaks : pJ_breaks S J) (p_fallen : pJ_fallen S J) (p_falls : pJ_falls S J) (p_undo : pJ_undo S J) (p_stall : pJ_stall S J) (p_see : pJ_see S J) (p_candles : pJ_candles S J) (p_when : pJ_when S J) (p_clear : pJ_clear S J) (p_stains : pJ_stains S J) (p_stood : pJ_stood S J) (p_clouded : pJ_clouded S J) (p_mark : pJ_mark S J) (p_count : pJ_count S J)
    {X : hm_X} {q L : Nat} {xs : Nat → Int32} {n : Nat} (hL : hm_LC (q + 1) L xs n S X) {i : Nat} (hi : i + 7 ≤ L) (hL4 : L ≤ 3584) {M : hm_M} (hJ : J M) {z : Int32}
    (kk : ∀ (X' : hm_X) (M' : hm_M), hm_LC q L xs n S X' → J M' → hm_U X' 1313 [(0, .ref 999999), (1, .ref 1), (2, .ref 76), (3, .ref 99), (4, .int (Int32.ofNat i))] [] M' (hm_QL X')) :
    hm_U X 40 [(0, .ref 999999), (1, .ref 1), (2, .ref 76), (3, .ref 99), (4, .int (Int32.ofNat i))] [.int z] M (hm_QL X) := by
  have hC := hL.1
  have hib : hm_ib S 99 .long (0 : Int32) = true := by unfold hm_ib hm_len; rw [hs99]; decide
  have ii : ∀ c : Nat, c ≤ 6 → hm_in (Int32.ofNat i + Int32.ofNat c) L = true := fun c hc => by
    rw [hm_addN (by omega) (by omega)]; exact hm_inN (by omega) (by omega)
  have i1 : hm_in (Int32.ofNat i + (1 : Int32)) L = true := ii 1 (by decide)
  have i2 : hm_in (Int32.ofNat i + (2 : Int32)) L = true := ii 2 (by decide)
  have i3 : hm_in (Int32.ofNat i + (3 : Int32)) L = true := ii 3 (by decide)
  have i4 : hm_in (Int32.ofNat i + (4 : Int32)) L = true := ii 4 (by decide)
  have i5 : hm_in (Int32.ofNat i + (5 : Int32)) L = true := ii 5 (by decide)
  have i6 : hm_in (Int32.ofNat i + (6 : Int32)) L = true := ii 6 (by decide)
  by_cases h0 : z = (0 : Int32)
  · refine jv_tableIn hC 160 dL_law_40 (by rw [h0]; decide) (by rw [h0]; decide) (by rw [h0]; rfl) (by decide) ?_
    obtain ⟨M', e1, e2⟩ := pL_0 hs1 hs76 p_feed (xs := xs) (i := Int32.ofNat i) i1 i2 i3 i4 i5 i6 hJ
    exact uL_0 hL e1 (fun X' hL' => kk X' M' hL' e2)
  by_cases h1 : z = (1 : Int32)
  · refine jv_tableIn hC 307 dL_law_40 (by rw [h1]; decide) (by rw [h1]; decide) (by rw [h1]; rfl) (by decide) ?_
    obtain ⟨M', e1, e2⟩ := pL_1 hs1 hs76 p_chapel (L := L) (xs := xs) (i := Int32.ofNat i)  hJ
    exact uL_1 hL e1 (fun X' hL' => kk X' M' hL' e2)
  by_cases h2 : z = (2 : Int32)
  · refine jv_tableIn hC 320 dL_law_40 (by rw [h2]; decide) (by rw [h2]; decide) (by rw [h2]; rfl) (by decide) ?_
    obtain ⟨M', e1, e2⟩ := pL_2 hs1 hs76 p_guild (xs := xs) (i := Int32.ofNat i) i1 i2 hJ
    exact uL_2 hL e1 (fun X' hL' => kk X' M' hL' e2)
  by_cases h3 : z = (3 : Int32)
  · refine jv_tableIn hC 357 dL_law_40 (by rw [h3]; decide) (by rw [h3]; decide) (by rw [h3]; rfl) (by decide) ?_
    obtain ⟨M', e1, e2⟩ := pL_3 hs1 hs76 p_pane (xs := xs) (i := Int32.ofNat i) i1 i2 hJ
    exact uL_3 hL e1 (fun X' hL' => kk X' M' hL' e2)
  by_cases h4 : z = (4 : Int32)
  · refine jv_tableIn hC 394 dL_law_40 (by rw [h4]; decide) (by rw [h4]; decide) (by rw [h4]; rfl) (by decide) ?_
    obtain ⟨M', e1, e2⟩ := pL_4 hs1 hs76 p_spot (xs := xs) (i := Int32.ofNat i) i1 i2 i3 hJ
    exact uL_4 hL e1 (fun X' hL' => kk X' M' hL' e2)
  by_cases h5 : z = (5 : Int32)
  · refine jv_tableIn hC 443 dL_law_40 (by rw [h5]; decide) (by rw [h5]; decide) (by rw [h5]; rfl) (by decide) ?_
    obtain ⟨M', e1, e2⟩ := pL_5 hs1 hs76 p_place (xs := xs) (i := Int32.ofNat i) i1 i2 i3 i4 i5 hJ
    exact uL_5 hL e1 (fun X' hL' => kk X' M' hL' e2)
  by_cases h6 : z = (6 : Int32)
  · refine jv_tableIn hC 516 dL_law_40 (by rw [h6]; decide) (by rw [h6]; decide) (by rw [h6]; rfl) (by decide) ?_
    obtain ⟨M', e1, e2⟩ := pL_6 hs1 hs76 p_yields (xs := xs) (i := Int32.ofNat i) i1 hJ
    exact uL_6 hL e1 (fun X' hL' => kk X' M' hL' e2)
  by_cases h7 : z = (7 : Int32)
  · refine jv_tableIn hC 541 dL_law_40 (by rw [h7]; decide) (by rw [h7]; decide) (by rw [h7]; rfl) (by decide) ?_
    obtain ⟨M', e1, e2⟩ := pL_7 hs1 hs76 p_rents (xs := xs) (i := Int32.ofNat i) i1 hJ
    exact uL_7 hL e1 (fun X' hL' => kk X' M' hL' e2)
  by_cases h8 : z = (8 : Int32)
  · refine jv_tableIn hC 566 dL_law_40 (by rw [h8]; decide) (by rw [h8]; decide) (by rw [h8]; rfl) (by decide) ?_
    obtain ⟨M', e1, e2⟩ := pL_8 hs1 hs76 p_worth (xs := xs) (i := Int32.ofNat i) i1 i2 hJ
    exact uL_8 hL e1 (fun X' hL' => kk X' M' hL' e2)
  by_cases h9 : z = (9 : Int32)
  · refine jv_tableIn hC 603 dL_law_40 (by rw [h9]; decide) (by rw [h9]; decide) (by rw [h9]; rfl) (by decide) ?_
    obtain ⟨M', e1, e2⟩ := pL_9 hs1 hs76 p_gain (xs := xs) (i := Int32.ofNat i) i1 i2 hJ
    exact uL_9 hL e1 (fun X' hL' => kk X' M' hL' e2)
  by_cases h10 : z = (10 : Int32)
  · refine jv_tableIn hC 640 dL_law_40 (by rw [h10]; decide) (by rw [h10]; decide) (by rw [h10]; rfl) (by decide) ?_
    obtain ⟨M', e1, e2⟩ := pL_10 hs1 hs76 p_best (xs := xs) (i := Int32.ofNat i) i1 hJ
    exact uL_10 hL e1 (fun X' hL' => kk X' M' hL' e2)
  by_cases h11 : z = (11 : Int32)
  · refine jv_tableIn hC 665 dL_law_40 (by rw [h11]; decide) (by rw [h11]; decide) (by rw [h11]; rfl) (by decide) ?_
    obtain ⟨M', e1, e2⟩ := pL_11 hs1 hs76 p_exchange (xs := xs) (i := Int32.ofNat i) i1 i2 hJ
    exact uL_11 hL e1 (fun X' hL' => kk X' M' hL' e2)
  by_cases h12 : z = (12 : Int32)
  · refine jv_tableIn hC 702 dL_law_40 (by rw [h12]; decide) (by rw [h12]; decide) (by rw [h12]; rfl) (by decide) ?_
    obtain ⟨M', e1, e2⟩ := pL_12 hs1 hs76 p_breaks (xs := xs) (i := Int32.ofNat i) i1 i2 hJ
    exact uL_12 hL e1 (fun X' hL' => kk X' M' hL' e2)
  by_cases h13 : z = (13 : Int32)
  · refine jv_tableIn hC 755 dL_law_40 (by rw [h13]; decide) (by rw [h13]; decide) (by rw [h13]; rfl) (by decide) ?_
    obtain ⟨M', e1, e2⟩ := pL_13 hs1 hs76 p_fallen (L := L) (xs := xs) (i := Int32.ofNat i)  hJ
    exact uL_13 hL e1 (fun X' hL' => kk X' M' hL' e2)
  by_cases h14 : z = (14 : Int32)
  · refine jv_tableIn hC 768 dL_law_40 (by rw [h14]; decide) (by rw [h14]; decide) (by rw [h14]; rfl) (by decide) ?_
    obtain ⟨M', e1, e2⟩ := pL_14 hs1 hs76 p_falls (xs := xs) (i := Int32.ofNat i) i1 hJ
    exact uL_14 hL e1 (fun X' hL' => kk X' M' hL' e2)
  by_cases h15 : z = (15 : Int32)
  · refine jv_tableIn hC 793 dL_law_40 (by rw [h15]; decide) (by rw [h15]; decide) (by rw [h15]; rfl) (by decide) ?_
    obtain ⟨M', e1, e2⟩ := pL_15 hs1 hs76 p_undo (L := L) (xs := xs) (i := Int32.ofNat i)  hJ
    exact uL_15 hL e1 (fun X' hL' => kk X' M' hL' e2)
  by_cases h16 : z = (16 : Int32)
  · refine jv_tableIn hC 806 dL_law_40 (by rw [h16]; decide) (by rw [h16]; decide) (by rw [h16]; rfl) (by decide) ?_
    obtain ⟨M', e1, e2⟩ := pL_16 hs1 hs76 p_stall (xs := xs) (i := Int32.ofNat i) i1 i2 i3 i4 i5 hJ
    exact uL_16 hL e1 (fun X' hL' => kk X' M' hL' e2)
  by_cases h17 : z = (17 : Int32)
  · refine jv_tableIn hC 879 dL_law_40 (by rw [h17]; decide) (by rw [h17]; decide) (by rw [h17]; rfl) (by decide) ?_
    obtain ⟨M', e1, e2⟩ := pL_17 hs1 hs76 p_see (xs := xs) (i := Int32.ofNat i) i1 i2 i3 hJ
    exact uL_17 hL e1 (fun X' hL' => kk X' M' hL' e2)
  by_cases h18 : z = (18 : Int32)
  · refine jv_tableIn hC 928 dL_law_40 (by rw [h18]; decide) (by rw [h18]; decide) (by rw [h18]; rfl) (by decide) ?_
    obtain ⟨M', e1, e2⟩ := pL_18 hs1 hs76 p_candles (xs := xs) (i := Int32.ofNat i) i1 i2 hJ
    exact uL_18 hL e1 (fun X' hL' => kk X' M' hL' e2)
  by_cases h19 : z = (19 : Int32)
  · refine jv_tableIn hC 965 dL_law_40 (by rw [h19]; decide) (by rw [h19]; decide) (by rw [h19]; rfl) (by decide) ?_
    obtain ⟨M', e1, e2⟩ := pL_19 hs1 hs76 p_when (xs := xs) (i := Int32.ofNat i) i1 hJ
    exact uL_19 hL e1 (fun X' hL' => kk X' M' hL' e2)
  by_cases h20 : z = (20 : Int32)
  · refine jv_tableIn hC 990 dL_law_40 (by rw [h20]; decide) (by rw [h20]; decide) (by rw [h20]; rfl) (by decide) ?_
    obtain ⟨M', e1, e2⟩ := pL_20 hs1 hs76 p_clear (L := L) (xs := xs) (i := Int32.ofNat i)  hJ
    exact uL_20 hL e1 (fun X' hL' => kk X' M' hL' e2)
  by_cases h21 : z = (21 : Int32)
  · refine jv_tableIn hC 1003 dL_law_40 (by rw [h21]; decide) (by rw [h21]; decide) (by rw [h21]; rfl) (by decide) ?_
    obtain ⟨M', e1, e2⟩ := pL_21 hs1 hs76 p_stains (xs := xs) (i := Int32.ofNat i) i1 i2 i3 i4 hJ
    exact uL_21 hL e1 (fun X' hL' => kk X' M' hL' e2)
  by_cases h22 : z = (22 : Int32)
  · refine jv_tableIn hC 1064 dL_law_40 (by rw [h22]; decide) (by rw [h22]; decide) (by rw [h22]; rfl) (by decide) ?_
    obtain ⟨M', e1, e2⟩ := pL_22 hs1 hs76 p_stood (xs := xs) (i := Int32.ofNat i) i1 i2 i3 i4 i5 i6 hJ
    exact uL_22 hL e1 (fun X' hL' => kk X' M' hL' e2)
  by_cases h23 : z = (23 : Int32)
  · refine jv_tableIn hC 1167 dL_law_40 (by rw [h23]; decide) (by rw [h23]; decide) (by rw [h23]; rfl) (by decide) ?_
    rcases p_clouded _ _ M hJ with ⟨r, M1, M2, M3, e1, e2, e3, e4, e5⟩ | ⟨hB, r, M2, M3, e2, e3, e5⟩
    · refine uL_23 (k := 0) hL (by rw [hg_pos i1, hg_pos i2]) (fun l _ dC dI dA ad sz => kl_ok hs1 hs99 (by decide) e1 l dC dI dA ad sz) ?_ (fun X' hL' => kk X' M3 hL' e5)
      simp only [fL_23r, hg_pos i1, hg_pos i2, hg_pos hs76]
      have e2' : f_Md_clouded S 76 (xs (Int32.ofNat i + 1).toNatClampNeg) (xs (Int32.ofNat i + 2).toNatClampNeg) (hm_wL M1 99 (0 : Int32).toNatClampNeg r.toInt64) = some (r, M2) := e2
      rw [e2', hb_some', e3, hb_some', if_pos rfl, if_pos trivial, hg_pos hib]
      have e4' : M3.2.1 99 (0 : Int32).toNatClampNeg = r.toInt64 := e4
      rw [e4', lg_cmp_self, if_pos rfl]
    · refine uL_23 (k := 1) hL (by rw [hg_pos i1, hg_pos i2]) (fun l htr dC dI dA ad sz => kl_bad hs1 hB l htr dC dI dA ad sz) ?_ (fun X' hL' => kk X' M3 hL' e5)
      simp only [fL_23r, hg_pos i1, hg_pos i2, hg_pos hs76]
      rw [e2, hb_some', e3, hb_some', if_pos rfl, if_neg (by decide)]
  by_cases h24 : z = (24 : Int32)
  · refine jv_tableIn hC 1235 dL_law_40 (by rw [h24]; decide) (by rw [h24]; decide) (by rw [h24]; rfl) (by decide) ?_
    obtain ⟨M', e1, e2⟩ := pL_24 hs1 hs76 p_mark (xs := xs) (i := Int32.ofNat i) i1 i2 hJ
    exact uL_24 hL e1 (fun X' hL' => kk X' M' hL' e2)
  by_cases h25 : z = (25 : Int32)
  · refine jv_tableIn hC 1288 dL_law_40 (by rw [h25]; decide) (by rw [h25]; decide) (by rw [h25]; rfl) (by decide) ?_
    obtain ⟨M', e1, e2⟩ := pL_25 hs1 hs76 p_count (xs := xs) (i := Int32.ofNat i) i1 hJ
    exact uL_25 hL e1 (fun X' hL' => kk X' M' hL' e2)
  refine jv_tableOut hC 1313 dL_law_40 (by have := hm_out (c := 0) (by decide) h0; have := hm_out (c := 1) (by decide) h1; have := hm_out (c := 2) (by decide) h2; have := hm_out (c := 3) (by decide) h3; have := hm_out (c := 4) (by decide) h4; have := hm_out (c := 5) (by decide) h5; have := hm_out (c := 6) (by decide) h6; have := hm_out (c := 7) (by decide) h7; have := hm_out (c := 8) (by decide) h8; have := hm_out (c := 9) (by decide) h9; have := hm_out (c := 10) (by decide) h10; have := hm_out (c := 11) (by decide) h11; have := hm_out (c := 12) (by decide) h12; have := hm_out (c := 13) (by decide) h13; have := hm_out (c := 14) (by decide) h14; have := hm_out (c := 15) (by decide) h15; have := hm_out (c := 16) (by decide) h16; have := hm_out (c := 17) (by decide) h17; have := hm_out (c := 18) (by decide) h18; have := hm_out (c := 19) (by decide) h19; have := hm_out (c := 20) (by decide) h20; have := hm_out (c := 21) (by decide) h21; have := hm_out (c := 22) (by decide) h22; have := hm_out (c := 23) (by decide) h23; have := hm_out (c := 24) (by decide) h24; have := hm_out (c := 25) (by decide) h25; omega) (by decide) ?_
  exact kk X M hL.down hJ
set_option maxRecDepth 100000 in
theorem law_loop {S : hm_S} {J : hm_M → Prop} (hs1 : S 1 = some (.inr 11)) (hs76 : S 76 = some (.inr 12)) (hs99 : S 99 = some (.inl (.long, 1))) (p_feed : pJ_feed S J) (p_chapel : pJ_chapel S J) (p_guild : pJ_guild S J) (p_pane : pJ_pane S J) (p_spot : pJ_spot S J) (p_place : pJ_place S J) (p_yields : pJ_yields S J) (p_rents : pJ_rents S J) (p_worth : pJ_worth S J) (p_gain : pJ_gain S J) (p_best : pJ_best S J) (p_exchange : pJ_exchange S J) (p_breaks : pJ_breaks S J) (p_fallen : pJ_fallen S J) (p_falls : pJ_falls S J) (p_undo : pJ_undo S J) (p_stall : pJ_stall S J) (p_see : pJ_see S J) (p_candles : pJ_candles S J) (p_when : pJ_when S J) (p_clear : pJ_clear S J) (p_stains : pJ_stains S J) (p_stood : pJ_stood S J) (p_clouded : pJ_clouded S J) (p_mark : pJ_mark S J) (p_count : pJ_count S J)
    {L : Nat} {xs : Nat → Int32} {n : Nat} (hL4 : L ≤ 3584) : ∀ (q : Nat) (X : hm_X), hm_LC q L xs n S X → ∀ (i : Nat) (M : hm_M), i ≤ L + 7 → L ≤ i + 7 * q → J M →
    hm_U X 23 [(0, .ref 999999), (1, .ref 1), (2, .ref 76), (3, .ref 99), (4, .int (Int32.ofNat i))] [] M (hm_QL X) := by
  intro q
  induction q with
  | zero =>
    intro X hL i M hi hq hJ
    have hC := hL.1
    refine jv_iload hC 4 dL_law_23 rfl ?_
    refine jv_aload_n hC 0 dL_law_25 rfl ?_
    refine jv_slen hL dL_law_26 ?_
    refine jv_bipush hC dL_law_27 c8_7 ?_
    refine jv_isub hC dL_law_29 ?_
    refine jv_icmp_gt hC 1319 dL_law_30 (by decide) (fun h => ?_) (fun h => ?_)
    · refine jv_iconst hC dL_law_1319 c32_1 ?_
      exact jv_lawret hL dL_law_1320
    · exact absurd (hm_last hL4 hi (by omega)) h
  | succ q ih =>
    intro X hL i M hi hq hJ
    have hC := hL.1
    refine jv_iload hC 4 dL_law_23 rfl ?_
    refine jv_aload_n hC 0 dL_law_25 rfl ?_
    refine jv_slen hL dL_law_26 ?_
    refine jv_bipush hC dL_law_27 c8_7 ?_
    refine jv_isub hC dL_law_29 ?_
    refine jv_icmp_gt hC 1319 dL_law_30 (by decide) (fun h => ?_) (fun h => ?_)
    · refine jv_iconst hC dL_law_1319 c32_1 ?_
      exact jv_lawret hL dL_law_1320
    · have hi7 : i + 7 ≤ L := Nat.le_of_not_lt (fun h7 => h (hm_last hL4 hi h7))
      refine jv_pc 33 rfl ?_
      refine jv_aload_n hC 0 dL_law_33 rfl ?_
      refine jv_iload hC 4 dL_law_34 rfl ?_
      refine jv_sld hL (hm_inN (by omega) (by omega)) dL_law_36 ?_
      refine jv_bipush hC dL_law_37 (v := 31) (by decide) ?_
      refine jv_iand hC dL_law_39 ?_
      refine jv_pc 40 rfl ?_
      refine law_step hs1 hs76 hs99 p_feed p_chapel p_guild p_pane p_spot p_place p_yields p_rents p_worth p_gain p_best p_exchange p_breaks p_fallen p_falls p_undo p_stall p_see p_candles p_when p_clear p_stains p_stood p_clouded p_mark p_count hL hi7 hL4 hJ (fun X' M' hL' hJ' => ?_)
      have hC' := hL'.1
      refine jv_iinc hC' 4 [(4, .int (Int32.ofNat i + (7 : Int32))), (0, .ref 999999), (1, .ref 1), (2, .ref 76), (3, .ref 99)] dL_law_1313 rfl (by decide) (by decide) rfl ?_
      refine jv_goto hC' 23 dL_law_1316 (by decide) ?_
      refine jv_sub [1, 2, 3, 4, 0] (ls' := [(0, .ref 999999), (1, .ref 1), (2, .ref 76), (3, .ref 99), (4, .int (Int32.ofNat i + (7 : Int32)))]) rfl ?_
      have e7 : Int32.ofNat i + (7 : Int32) = Int32.ofNat (i + 7) := hm_addN (by omega) (c := 7) (by decide)
      rw [e7]
      exact ih X' hL' (i + 7) M' (by omega) (by omega) hJ'
