/-! THE START: texts and statics -/
def st_tm (i : Nat) : Term := match i with
  | 0 => .string "PaneSpots$Tape" 71
  | _ => .string "PaneSpots$Tape" 61
def st_ad (b : Nat) (adK adV : Nat → Nat) (a2 t : Nat) (k : Nat) : Nat :=
  if k = 999999 then b else if k = 1000002 then a2 else if k = 3000000 then t else if k < 2000000 then adK (k - 1000000) else adV (k - 2000000)
set_option maxRecDepth 100000 in
set_option maxHeartbeats 4000000 in
theorem st_el : ∀ i, i < 2 → ∀ j, j < hm_lens.getD i 0 → Cond.eq (.elem (.field (st_tm i) "java/lang/String" "value" "[B") (.int (Int32.ofNat j))) (.int ((hm_byts.getD i []).getD j 0)) ∈ flatC (Jvm.Cond.and given_1 narrow_1) := by decide +kernel
set_option maxRecDepth 100000 in
set_option maxHeartbeats 4000000 in
theorem st_str {s : State} {args : Array Value} (hgv : (Jvm.Cond.and given_1 narrow_1).before args s = true) {A : Nat → Prop} (hA : ∀ a : Nat, a < s.heap.size → ¬ A a) :
    ∃ adK adV : Nat → Nat, vk_S 2 hm_lens hm_byts adK adV A s s.heap ∧ ∀ i : Nat, i < 2 → (st_tm i).eval args s none [] s = some (.ref (adK i)) := by
  have hs := flat_of_before _ hgv
  refine vk_Sof (tm := st_tm) ?_ ?_ ?_ ?_ ?_ (fun i hi j hj => hs _ (st_el i hi j hj)) ?_ hA
  · decide +kernel
  · have h : ∀ i, i < 2 → Cond.exactly (st_tm i) "java/lang/String" ∈ flatC (Jvm.Cond.and given_1 narrow_1) := by decide +kernel
    exact fun i hi => hs _ (h i hi)
  · have h : ∀ i, i < 2 → Cond.eq (.field (st_tm i) "java/lang/String" "coder" "B") (.int 0) ∈ flatC (Jvm.Cond.and given_1 narrow_1) := by decide +kernel
    exact fun i hi => hs _ (h i hi)
  · have h : ∀ i, i < 2 → Cond.arrayOf (.field (st_tm i) "java/lang/String" "value" "[B") .byte ∈ flatC (Jvm.Cond.and given_1 narrow_1) := by decide +kernel
    exact fun i hi => hs _ (h i hi)
  · have h : ∀ i, i < 2 → Cond.eq (.length (.field (st_tm i) "java/lang/String" "value" "[B")) (.int (Int32.ofNat (hm_lens.getD i 0))) ∈ flatC (Jvm.Cond.and given_1 narrow_1) := by decide +kernel
    exact fun i hi => hs _ (h i hi)
  · have h : Cond.not (Cond.eq (st_tm 0) (st_tm 1)) ∈ flatC (Jvm.Cond.and given_1 narrow_1) := by decide +kernel
    intro i j hi hj hij
    have e : (i = 0 ∧ j = 1) ∨ (i = 1 ∧ j = 0) := by omega
    rcases e with ⟨rfl, rfl⟩ | ⟨rfl, rfl⟩
    · exact Or.inl (hs _ h)
    · exact Or.inr (hs _ h)
set_option maxRecDepth 100000 in
set_option maxHeartbeats 4000000 in
theorem st_all {s : State} {b : Nat} (hts : ∀ w ∈ lw_tbl, w.before #[Value.ref b] s = true) (hgv : (Jvm.Cond.and given_1 narrow_1).before #[Value.ref b] s = true) :
    ∃ ad : Nat → Nat, ad 999999 = b ∧ hm_St ad (fun r : Nat => s.heap.size ≤ r) s s.heap ∧ hm_Th ad (fun r : Nat => s.heap.size ≤ r) s s.heap := by
  have hA : ∀ a : Nat, a < s.heap.size → ¬ (fun r : Nat => s.heap.size ≤ r) a := fun a h => Nat.not_le.mpr h
  have hs := flat_of_before _ hgv
  obtain ⟨adK, adV, hS, hev⟩ := st_str hgv hA
  have h272 : (Cond.exactly (.string "PaneSpots" 272) "java/lang/String") ∈ flatC (Jvm.Cond.and given_1 narrow_1) := by decide +kernel
  obtain ⟨a2, c, cA, kA, q1, -⟩ := Cond.exactly_spec (args := #[Value.ref b]) (first := s) (o := none) (s := s) (idx := []) (t := .string "PaneSpots" 272) (cls := "java/lang/String") (hs _ h272)
  have hcs : (Cond.eq (.static "java/lang/String" "COMPACT_STRINGS" "Z") (.int 1)) ∈ flatC (Jvm.Cond.and given_1 narrow_1) := by decide +kernel
  have hfm : (Cond.isRef (.static "jdk/internal/util/Preconditions" "SIOOBE_FORMATTER" "Ljava/util/function/BiFunction;")) ∈ flatC (Jvm.Cond.and given_1 narrow_1) := by decide +kernel
  have hus : (Cond.isRef (.static Bundle.tN "UNASSIGNED_STACK" Bundle.steD)) ∈ flatC (Jvm.Cond.and given_1 narrow_1) := by decide +kernel
  have hsu : (Cond.isRef (.static Bundle.tN "SUPPRESSED_SENTINEL" Bundle.listD)) ∈ flatC (Jvm.Cond.and given_1 narrow_1) := by decide +kernel
  have hZ := va_Zof (A := fun r : Nat => s.heap.size ≤ r) (hts _ (tb_c2 216 rfl)) (hts _ (tb_c1 14 rfl)) (va_eqi (hs _ hcs)) hA
  have hQ := va_Zqof (A := fun r : Nat => s.heap.size ≤ r) (hts _ (tb_c2 232 rfl)) (hts _ (tb_c1 16 rfl)) (hs _ hfm) hA
  have hT1 := vx_Zqof (A := fun r : Nat => s.heap.size ≤ r) (C := Bundle.tN) (n := "UNASSIGNED_STACK") (d := Bundle.steD) (hts _ (tb_c5 138 rfl)) (hts _ (tb_c1 23 rfl)) (hs _ hus) hA
  have hT2 := vx_Zqof (A := fun r : Nat => s.heap.size ≤ r) (C := Bundle.tN) (n := "SUPPRESSED_SENTINEL") (d := Bundle.listD) (hts _ (tb_c5 140 rfl)) (hts _ (tb_c1 23 rfl)) (hs _ hsu) hA
  obtain ⟨t, hQt⟩ : ∃ t : Nat, va_Z "jdk/internal/util/Preconditions" "SIOOBE_FORMATTER" "Ljava/util/function/BiFunction;" .null (fun r : Nat => s.heap.size ≤ r) s s.heap ∨ va_Z "jdk/internal/util/Preconditions" "SIOOBE_FORMATTER" "Ljava/util/function/BiFunction;" (.ref t) (fun r : Nat => s.heap.size ≤ r) s s.heap := by
    rcases hQ with h | ⟨t, h⟩
    · exact ⟨0, Or.inl h⟩
    · exact ⟨t, Or.inr h⟩
  have e0 : ∀ i, i < 2 → st_ad b adK adV a2 t (1000000 + i) = adK i := fun i hi => by
    unfold st_ad
    rw [if_neg (by omega), if_neg (by omega), if_neg (by omega), if_pos (by omega), Nat.add_sub_cancel_left]
  have e1 : ∀ i, i < 2 → st_ad b adK adV a2 t (2000000 + i) = adV i := fun i hi => by
    unfold st_ad
    rw [if_neg (by omega), if_neg (by omega), if_neg (by omega), if_neg (by omega), Nat.add_sub_cancel_left]
  refine ⟨st_ad b adK adV a2 t, rfl, ⟨⟨fun i hi => ?_, fun i j hi hj h => ?_⟩, hZ, ?_, ?_, ?_, hts _ (tb_c4 37 rfl), hts _ (tb_c5 5 rfl), va_AO.of (hts _ (tb_c2 131 rfl))⟩, hT1, hT2, ?_, hts _ (tb_c5 113 rfl), hts _ (tb_c5 115 rfl), hts _ (tb_c5 117 rfl), hts _ (tb_c5 119 rfl)⟩
  · show va_O _ (st_ad b adK adV a2 t (1000000 + i)) _ _ _ ∧ va_OF _ _ _ _ (st_ad b adK adV a2 t (1000000 + i)) _ _ _ ∧ va_OF _ _ _ (.ref (st_ad b adK adV a2 t (2000000 + i))) (st_ad b adK adV a2 t (1000000 + i)) _ _ _ ∧ va_T _ (st_ad b adK adV a2 t (2000000 + i)) _ _ _ _ _
    rw [e0 i hi, e1 i hi]
    exact hS.1 i hi
  · have h' : st_ad b adK adV a2 t (1000000 + i) = st_ad b adK adV a2 t (1000000 + j) := h
    rw [e0 i hi, e0 j hj] at h'
    exact hS.2 i j hi hj h'
  · rcases hQt with h | h
    · exact Or.inl h
    · exact Or.inr h
  · exact vk_R.of (A := #[Value.ref b]) (hts _ (tb_c2 206 rfl)) (by have h := hev 0 (by decide); rw [← e0 0 (by decide)] at h; exact h)
  · exact vk_R.of (A := #[Value.ref b]) (hts _ (tb_c3 22 rfl)) (by have h := hev 1 (by decide); rw [← e0 1 (by decide)] at h; exact h)
  · exact vk_R.of (A := #[Value.ref b]) (hts _ (tb_c5 150 rfl)) q1
