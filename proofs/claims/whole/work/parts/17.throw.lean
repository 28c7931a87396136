/-! clouded: a call that throws, a call that catches -/
def hm_tx2 : String := "no such seed or guild"
def hm_NSE : String := "java/util/NoSuchElementException"
theorem cx_link : Cond.classLink RX11 270 hm_NSE ∈ gW := gW_c5 111 rfl rfl
theorem cx_ini : Cond.initialized hm_NSE ∈ gW := gW_c1 26 rfl rfl
theorem cx_law : Cond.classLink RL 13 hm_NSE ∈ gW := gW_c5 106 rfl rfl
theorem cx_mi : hm_MI yX11_clouded := ⟨gW_c5 108 rfl rfl, gW_c5 109 rfl rfl⟩
theorem cx_ml : Cond.methodLink RL 7 yX11_clouded ∈ gW := gW_c5 107 rfl rfl
theorem cx_mlL : Cond.methodLink RL 123 yL_clouded ∈ gW := gW_c5 103 rfl rfl
theorem cx_st : Cond.static yL_clouded ∈ gW := gW_c5 104 rfl rfl
theorem cx_iniL : Cond.initialized RL ∈ gW := gW_c1 0 rfl rfl
theorem cx_cw : Cond.codeWith yL_clouded cL_clouded 5 (some .int) [(0, 10, 13, 13)] ∈ gW := gW_c5 105 rfl rfl
abbrev hm_atS : List Cond := hm_atX RX11 274 hm_NSE "java/lang/RuntimeException" ["java/lang/Exception"] 13 prog_31_method_4_code
abbrev hm_bad : List Cond := [.castable hm_NSE hm_NSE, .declares ⟨"java/lang/RuntimeException", "<init>", "(Ljava/lang/String;)V"⟩, .declares ⟨"java/lang/Exception", "<init>", "(Ljava/lang/String;)V"⟩, .declares ⟨"java/lang/Throwable", "<init>", "(Ljava/lang/String;)V"⟩]
theorem cx_bad : ∀ w ∈ hm_atS.filter (fun w => !goodWord w), w ∈ hm_bad := by decide +kernel
theorem cx_good0 : ∀ w ∈ hm_atS.filter goodWord, w ∈ lw_tbl := by decide +kernel
theorem cx_good : ∀ w ∈ hm_atS.filter goodWord, w ∈ gW := fun w hw => List.mem_filter.mpr ⟨cx_good0 w hw, (List.mem_filter.mp hw).2⟩
theorem dx_0 : decode prog_31_method_4_code 0 = .ok (.aload_n 0, 1) := by decide +kernel
theorem dx_1 : decode prog_31_method_4_code 1 = .ok (.aload_n 1, 1) := by decide +kernel
theorem dx_2 : decode prog_31_method_4_code 2 = .ok (.invokespecial 13, 3) := by decide +kernel
theorem dx_5 : decode prog_31_method_4_code 5 = .ok (.return_, 1) := by decide +kernel
theorem cx_ot : ∀ w ∈ Cond.classLink RX11 270 hm_NSE :: Cond.initialized hm_NSE :: hm_atS, vx_ot w = true := by decide +kernel
/-- what a throw needs outside the memory -/
def hm_Th (ad : Nat → Nat) (A : Nat → Prop) (s : State) (H : Heap) : Prop :=
  vx_Zq Bundle.tN "UNASSIGNED_STACK" Bundle.steD A s H ∧ vx_Zq Bundle.tN "SUPPRESSED_SENTINEL" Bundle.listD A s H ∧ vk_R "PaneSpots" 272 hm_tx2 (ad 1000002) s ∧
  va_Nw (.castable hm_NSE hm_NSE) s ∧ va_Nw (.declares ⟨"java/lang/RuntimeException", "<init>", "(Ljava/lang/String;)V"⟩) s ∧ va_Nw (.declares ⟨"java/lang/Exception", "<init>", "(Ljava/lang/String;)V"⟩) s ∧ va_Nw (.declares ⟨"java/lang/Throwable", "<init>", "(Ljava/lang/String;)V"⟩) s
theorem hm_Th.to {ad : Nat → Nat} {A B : Nat → Prop} {s U : State} {H : Heap} {locs : List Loc} (h : hm_Th ad A s s.heap) (hS : va_S A s.heap H locs) (hU : U.heap = H) (hW : s.WarmedH U.vm) (hB : ∀ q, B q → A q) : hm_Th ad B U U.heap := by
  obtain ⟨h1, h2, h3, h4, h5, h6, h7⟩ := h
  have hq : ∀ a : Nat, a < s.heap.size → ¬ A a → H[a]? = s.heap[a]? := fun a h1 h2 => hS.2.1 a h1 h2
  rw [hU]
  exact ⟨((h1.kept hq).moved hW.alike).narrow hB, ((h2.kept hq).moved hW.alike).narrow hB, h3.warm hW, h4.warmC hW, h5.warmD hW, h6.warmD hW, h7.warmD hW⟩
theorem hm_Th.call {ad : Nat → Nat} {A : Nat → Prop} {U : State} {g : JFrame} {mk : MethodId} {a : Array Value} {H : Heap} (h : hm_Th ad A U H) : hm_Th ad A (U.calling g mk a) H := by
  obtain ⟨h1, h2, h3, h4, h5, h6, h7⟩ := h
  exact ⟨h1.moved (u := U) (U := U.calling g mk a) (Vm.Alike.refl U.vm), h2.moved (u := U) (U := U.calling g mk a) (Vm.Alike.refl U.vm), h3.same (u := U) (U := U.calling g mk a) rfl, va_Nw.same rfl (u := U) (U := U.calling g mk a) rfl h4, va_Nw.same rfl (u := U) (U := U.calling g mk a) rfl h5, va_Nw.same rfl (u := U) (U := U.calling g mk a) rfl h6, va_Nw.same rfl (u := U) (U := U.calling g mk a) rfl h7⟩
