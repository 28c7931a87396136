/-! CALLS: a method's contract over the memory -/
def hm_room (d : Nat) : Room := { frames := d, cells := 0, slots := 0, locals := 64 * d }
def hm_Pc (dC : Nat → ClassId) (dI : Nat → Nat → Nat) (dA : FieldType → ClassId) (ad : Nat → Nat) (n : Nat) (S : hm_S) (sz : Nat) (as : List Value) (M : hm_M) : Array Value → State → Prop :=
  va_Pc (as.map (hm_tv ad)) (fun U => U.heap.size = sz ∧ va_P (dC, dI) vwCl (hm_ws dA ad S n M) U.heap ∧ va_K (dC, dI) vwCl (hm_tys dA) U ∧ hm_ok ad n ∧ hm_St ad (hm_An ad n sz) U U.heap ∧ ∀ a x, S a = some x → 1 ≤ a ∧ a ≤ n)
def hm_Qc (dC : Nat → ClassId) (dI : Nat → Nat → Nat) (dA : FieldType → ClassId) (ad : Nat → Nat) (n : Nat) (S : hm_S) (A : Nat → Prop) (r : Option Value) (M : hm_M) : Array Value → State → Outcome → State → Prop := fun _ st oc t =>
  oc = .returned (r.map (hm_tv ad)) ∧ va_P (dC, dI) vwCl (hm_ws dA ad S n M) t.heap ∧ va_F A st t
def hm_KM (y : MethodName) (cc : ByteArray) (nL : Nat) (ret : Option FieldType) (d n : Nat) (S : hm_S) (as : List Value) (M : hm_M) (r : Option Value) (M' : hm_M) : Prop :=
  ∀ (l : Launch) (dC : Nat → ClassId) (dI : Nat → Nat → Nat) (dA : FieldType → ClassId) (ad : Nat → Nat) (sz : Nat), Met l y (.code y cc nL ret :: gW) (hm_room d) (hm_Pc dC dI dA ad n S sz as M) (hm_Qc dC dI dA ad n S (hm_An ad n sz) r M') 0 0 (hm_An ad n sz)
/-- what a method's end owes -/
def hm_Q (X : hm_X) (r : Option Value) (M : hm_M) : State → Prop :=
  match X with
  | ((p, l, e, R, s), (m, args, below, meth, c), (dC, dI, dA, ad, A), (n, S, nL, cells, slots)) => MQ below (hm_Qc dC dI dA ad n S A r M) args s cells slots A
/-- the words of a method, of an instance and of a static one -/
def hm_MM (y : MethodName) (cc : ByteArray) (nL : Nat) (ret : Option FieldType) (np : Nat) : Prop := Cond.code y cc nL ret ∈ gW ∧ Cond.initialized y.cls ∈ gW ∧ y.cls ≠ "java/lang/invoke/MethodHandle" ∧ y.cls ≠ "java/lang/invoke/VarHandle" ∧ (parseMethodDescriptor y.desc).map (fun d => d.parameters.length) = some np ∧ plainName y.cls = true ∧ nL ≤ 45
def hm_MI (y : MethodName) : Prop := Cond.instanceMethod y ∈ gW ∧ Cond.selects y.cls y y ∈ gW
theorem hm_St.to {ad : Nat → Nat} {A B : Nat → Prop} {s U : State} {H : Heap} {locs : List Loc} (h : hm_St ad A s s.heap) (hS : va_S A s.heap H locs) (hU : U.heap = H) (hW : s.WarmedH U.vm) (hB : ∀ q, B q → A q) : hm_St ad B U U.heap := by
  obtain ⟨h1, h2, h3, h4, h5, h6, h7, h8⟩ := h
  have hq : ∀ a : Nat, a < s.heap.size → ¬ A a → H[a]? = s.heap[a]? := fun a h1 h2 => hS.2.1 a h1 h2
  rw [hU]
  refine ⟨((h1.kept hq).moved hW.alike).narrow hB, ((h2.kept hq).moved hW.alike).narrow hB, ?_, h4.warm hW, h5.warm hW, h6.warmM hW, h7.warmM hW, h8.moved hW.alike⟩
  rcases h3 with h | h
  · exact Or.inl (((h.kept hq).moved hW.alike).narrow hB)
  · exact Or.inr (((h.kept hq).moved hW.alike).narrow hB)
theorem hm_St.call {ad : Nat → Nat} {A : Nat → Prop} {U : State} {g : JFrame} {mk : MethodId} {a : Array Value} {H : Heap} (h : hm_St ad A U H) : hm_St ad A (U.calling g mk a) H := by
  obtain ⟨h1, h2, h3, h4, h5, h6, h7, h8⟩ := h
  exact ⟨h1.moved (u := U) (U := U.calling g mk a) (Vm.Alike.refl U.vm), h2.moved (u := U) (U := U.calling g mk a) (Vm.Alike.refl U.vm), h3.imp (fun h => h.moved (u := U) (U := U.calling g mk a) (Vm.Alike.refl U.vm)) (fun h => h.moved (u := U) (U := U.calling g mk a) (Vm.Alike.refl U.vm)), h4.same (u := U) (U := U.calling g mk a) rfl, h5.same (u := U) (U := U.calling g mk a) rfl, va_Nw.same rfl (u := U) (U := U.calling g mk a) rfl h6, va_Nw.same rfl (u := U) (U := U.calling g mk a) rfl h7, va_AO.moved (u := U) (U := U.calling g mk a) (Vm.Alike.refl U.vm) h8⟩
theorem hm_blind {dC : Nat → ClassId} {dI : Nat → Nat → Nat} {dA : FieldType → ClassId} {ad : Nat → Nat} {n : Nat} {S : hm_S} {sz : Nat} {as : List Value} {M : hm_M} : FrameBlind (hm_Pc dC dI dA ad n S sz as M) := by
  intro a U g mk h
  obtain ⟨h1, h2, h3, h4, h5, h6, h7⟩ := h
  exact ⟨h1, h2, h3, va_K.moved (u := U) (U := U.calling g mk a) (Vm.Alike.refl U.vm) h4, h5, h6.call, h7⟩
theorem hm_An_in {ad : Nat → Nat} {A : Nat → Prop} {n : Nat} {s : State} {H : Heap} {locs : List Loc} (hA : ∀ q, s.heap.size ≤ q → A q) (hAn : ∀ i, i < n → A (ad (i + 1))) (hS : va_S A s.heap H locs) : ∀ q, hm_An ad n H.size q → A q := by
  rintro q (⟨i, hi, rfl⟩ | h)
  · exact hAn i hi
  · exact hA q (Nat.le_trans hS.1 h)
section Calls2
variable {X : hm_X} {own : String} {cc : ByteArray} {nL : Nat} {ret : Option FieldType} {d n : Nat} {S : hm_S} {pc : Nat} {ls : List (Nat × Value)} {st : List Value} {M : hm_M} {Q : State → Prop}
/-- behind any call -/
theorem hm_behind {p : Program} {l : Launch} {e : Env} {R : Room} {s : State} {m : MethodId} {args : Array Value} {below : List Frame} {meth : Method} {c : Code} {H : Heap} {locs : List Loc} {cells slots : Nat} {dC : Nat → ClassId} {dI : Nat → Nat → Nat} {dA : FieldType → ClassId} {ad : Nat → Nat} {A : Nat → Prop} {la : Array Slot} {st0 : List Value} {r : Option Value} {M1 : hm_M} {av : Array Value}
    (hA : ∀ q, s.heap.size ≤ q → A q) (hAn : ∀ i, i < n → A (ad (i + 1))) (hS : va_S A s.heap H locs)
    (hr : va_Run p l e R s m args below meth c H locs cells slots 0 0 (F0 m pc la st0) (st.map (hm_tv ad)) (hm_Qc dC dI dA ad n S (hm_An ad n H.size) r M1 av) (hm_An ad n H.size))
    (kk : ∀ (H1 : Heap) (locs1 : List Loc), va_P (dC, dI) vwCl (hm_ws dA ad S n M1) H1 → va_S A s.heap H1 locs1 → W p l e R s m args below meth c H1 locs1 cells slots Q (F0 m (pc + 3) la ((r.toList ++ st).map (hm_tv ad)))) : W p l e R s m args below meth c H locs cells slots Q (F0 m pc la st0) := by
  intro T hT X
  obtain ⟨v, st₀, t, T', L, h0, X', hL, e1, e2, ⟨hv, hPt, hz, hk⟩, go⟩ := hr T hT X
  cases hv
  rw [h0] at hz hk
  have hin := hm_An_in hA hAn hS
  obtain ⟨t2, a1, b1⟩ := kk T'.heap (locs ++ L) (by rw [e1]; exact hPt)
    ⟨Nat.le_trans hS.1 (by rw [e1]; exact hz), fun q h1 h2 => by rw [e1, hk q (Nat.lt_of_lt_of_le h1 hS.1) (fun z => h2 (hin q z))]; exact hS.2.1 q h1 h2, fun q hq => by
      rcases List.mem_append.mp hq with h | h
      · exact hS.2.2 q h
      · exact hin _ (hL q h)⟩ T' rfl X'
  refine ⟨t2, go t2 ?_, b1⟩
  have e : (r.map (hm_tv ad)).toList ++ st.map (hm_tv ad) = (r.toList ++ st).map (hm_tv ad) := by cases r <;> simp
  rw [e]
  exact a1
theorem hm_cat {ad : Nat → Nat} {st : List Value} (h : (st.map fun v => v.category).sum ≤ 8) : 2 * (F0 (default : MethodId) 0 #[] []).monitorRoom + ((st.map (hm_tv ad)).map fun v => v.category).sum ≤ 8 := by
  have e : ((st.map (hm_tv ad)).map fun v => v.category) = st.map fun v => v.category := by
    rw [List.map_map]
    apply List.map_congr_left
    intro v _
    exact hm_tv_cat ad v
  rw [e]
  show 2 * 0 + _ ≤ 8
  omega
theorem jv_callV (hC : hm_C X own cc nL ret d n S) {y : MethodName} {cy : ByteArray} {nY dy np idx a ci : Nat} {ry : Option FieldType} {r : Option Value} {M1 : hm_M} {T : u_T} {N : Nat} (as : List Value) {st0 : List Value} (hk : hm_KM y cy nY ry dy n S (.ref a :: as) M r M1) (hm : hm_MM y cy nY ry np) (hi : hm_MI y) (hl0 : Cond.methodLink own idx y ∈ gW)
    (hd : decode cc pc = .ok (.invokevirtual idx, 3)) (hs : S a = some (.inr ci)) (hc : vwCl[ci]? = some (y.cls, T, N)) (hdd : dy + 1 ≤ d) (hn : as.length = np) (hst : st0 = as.reverse ++ .ref a :: st) (hw : (st.map fun v => v.category).sum ≤ 8)
    (kk : hm_U X (pc + 3) ls (r.toList ++ st) M1 Q) : hm_U X pc ls st0 M Q := by
  obtain ⟨⟨p, l, e, R, s⟩, ⟨m, args, below, meth, c⟩, ⟨dC, dI, dA, ad, A⟩, ⟨n', S', nL', cells, slots⟩⟩ := X
  obtain ⟨⟨hx, hb, -, hml, hown, hts, -⟩, ⟨hA, hK, hok, hAn, hSt⟩, ⟨rfl, rfl, rfl, hfr, hlo, hce, hsl, hr⟩⟩ := hC
  obtain ⟨hm1, hm2, hm3, hm4, hm5, hm6, hm7⟩ := hm
  intro H locs la hP hS hl
  obtain ⟨r1, r2⟩ := hr _ _ hs
  have hgd : GoodIn gW (.code y cy nY ry :: gW) := fun w h => by
    rcases List.mem_cons.mp h with h | h
    · subst h; exact gW_good _ hm1
    · exact gW_good _ h
  have cw : CallW R s args own y.cls idx y cy nY ry (.code y cy nY ry :: gW) (hm_room dy) 0 0 np := by
    refine ⟨⟨rfl, rfl, Nat.le_trans hdd hfr, ?_, pay_in hts hgd, List.mem_cons_self, hts _ hm1, hts _ hm2, ⟨hm3, hm4⟩, ?_, hts _ hl0⟩, hts _ hi.1, hts _ hi.2⟩
    · show 8 + (nY + 11) + 64 * dy ≤ R.locals
      omega
    · intro sig h
      rw [h] at hm5
      exact (Option.some.inj hm5).symm
  refine hm_behind hA hAn hS (va_runV (As := as.map (hm_tv ad)) (b := ad a) ⟨hx, hb, hml, hown, hts⟩ (hk l dC dI dA ad H.size) cw ⟨hm_blind, va_recv hK hP hc (by rw [hm_ws_at r1 r2, hm_E_obj hs]), fun U hU hW => ⟨rfl, by rw [hU], by rw [hU]; exact hP, va_K.moved hW.alike hK, hok, hSt.to hS hU hW (hm_An_in hA hAn hS), hr⟩⟩ rfl (by rw [List.length_map]; exact hn) hl.1 (by rw [hst]; simp [hm_tv]) (hm_cat hw) hd ⟨hce, hsl⟩) (fun H1 locs1 hP1 hS1 => kk H1 locs1 la hP1 hS1 hl)
theorem jv_callS (hC : hm_C X own cc nL ret d n S) {y : MethodName} {cy : ByteArray} {nY dy np idx : Nat} {ry : Option FieldType} {r : Option Value} {M1 : hm_M} (as : List Value) {st0 : List Value} (hk : hm_KM y cy nY ry dy n S as M r M1) (hm : hm_MM y cy nY ry np) (hi : Cond.static y ∈ gW) (hl0 : Cond.methodLink own idx y ∈ gW)
    (hd : decode cc pc = .ok (.invokestatic idx, 3)) (hdd : dy + 1 ≤ d) (hn : as.length = np) (hst : st0 = as.reverse ++ st) (hw : (st.map fun v => v.category).sum ≤ 8)
    (kk : hm_U X (pc + 3) ls (r.toList ++ st) M1 Q) : hm_U X pc ls st0 M Q := by
  obtain ⟨⟨p, l, e, R, s⟩, ⟨m, args, below, meth, c⟩, ⟨dC, dI, dA, ad, A⟩, ⟨n', S', nL', cells, slots⟩⟩ := X
  obtain ⟨⟨hx, hb, -, hml, hown, hts, -⟩, ⟨hA, hK, hok, hAn, hSt⟩, ⟨rfl, rfl, rfl, hfr, hlo, hce, hsl, hr⟩⟩ := hC
  obtain ⟨hm1, hm2, hm3, hm4, hm5, hm6, hm7⟩ := hm
  intro H locs la hP hS hl
  have hgd : GoodIn gW (.code y cy nY ry :: gW) := fun w h => by
    rcases List.mem_cons.mp h with h | h
    · subst h; exact gW_good _ hm1
    · exact gW_good _ h
  have cw : CallB R s args own idx y cy nY ry (.code y cy nY ry :: gW) (hm_room dy) 0 0 np ∧ (Cond.static y).before args s = true := by
    refine ⟨⟨rfl, rfl, Nat.le_trans hdd hfr, ?_, pay_in hts hgd, List.mem_cons_self, hts _ hm1, hts _ hm2, ⟨hm3, hm4⟩, ?_, hts _ hl0⟩, hts _ hi⟩
    · show 8 + (nY + 11) + 64 * dy ≤ R.locals
      omega
    · intro sig h
      rw [h] at hm5
      exact (Option.some.inj hm5).symm
  refine hm_behind hA hAn hS (va_runS (As := as.map (hm_tv ad)) ⟨hx, hb, hml, hown, hts⟩ (hk l dC dI dA ad H.size) cw ⟨hm_blind, fun U hU hW => ⟨rfl, by rw [hU], by rw [hU]; exact hP, va_K.moved hW.alike hK, hok, hSt.to hS hU hW (hm_An_in hA hAn hS), hr⟩⟩ rfl (by rw [List.length_map]; exact hn) hl.1 (by rw [hst]; simp [hm_tv]) (hm_cat hw) hd ⟨hce, hsl⟩) (fun H1 locs1 hP1 hS1 => kk H1 locs1 la hP1 hS1 hl)
/-- a private static method of the nest's host -/
theorem jv_callSN (hC : hm_C X own cc nL ret d n S) {y : MethodName} {host : String} {cy : ByteArray} {nY dy np idx : Nat} {ry : Option FieldType} {r : Option Value} {M1 : hm_M} (as : List Value) {st0 : List Value} (hk : hm_KM y cy nY ry dy n S as M r M1) (hm : hm_MM y cy nY ry np) (hi : Cond.static y ∈ gW) (hl0 : ∀ {ad : Nat → Nat} {A : Nat → Prop} {s : State} {H : Heap}, hm_St ad A s H → va_Nw (.methodLinkNest own idx y host) s)
    (hd : decode cc pc = .ok (.invokestatic idx, 3)) (hdd : dy + 1 ≤ d) (hn : as.length = np) (hst : st0 = as.reverse ++ st) (hw : (st.map fun v => v.category).sum ≤ 8)
    (kk : hm_U X (pc + 3) ls (r.toList ++ st) M1 Q) : hm_U X pc ls st0 M Q := by
  obtain ⟨⟨p, l, e, R, s⟩, ⟨m, args, below, meth, c⟩, ⟨dC, dI, dA, ad, A⟩, ⟨n', S', nL', cells, slots⟩⟩ := X
  obtain ⟨⟨hx, hb, -, hml, hown, hts, -⟩, ⟨hA, hK, hok, hAn, hSt⟩, ⟨rfl, rfl, rfl, hfr, hlo, hce, hsl, hr⟩⟩ := hC
  obtain ⟨hm1, hm2, hm3, hm4, hm5, hm6, hm7⟩ := hm
  intro H locs la hP hS hl
  have hgd : GoodIn gW (.code y cy nY ry :: gW) := fun w h => by
    rcases List.mem_cons.mp h with h | h
    · subst h; exact gW_good _ hm1
    · exact gW_good _ h
  have cw : va_CN R s args own idx y host cy nY ry (.code y cy nY ry :: gW) (hm_room dy) 0 0 np ∧ (Cond.static y).before args s = true ∧ True := by
    refine ⟨⟨⟨rfl, rfl, Nat.le_trans hdd hfr, ?_, pay_in hts hgd, List.mem_cons_self⟩, hts _ hm1, hts _ hm2, ⟨hm3, hm4⟩, ?_, (hl0 hSt).use rfl⟩, hts _ hi, trivial⟩
    · show 8 + (nY + 11) + 64 * dy ≤ R.locals
      omega
    · intro sig h
      rw [h] at hm5
      exact (Option.some.inj hm5).symm
  refine hm_behind hA hAn hS (va_runSN (As := as.map (hm_tv ad)) ⟨hx, hb, hml, hown, hts⟩ (hk l dC dI dA ad H.size) cw ⟨hm_blind, fun U hU hW => ⟨rfl, by rw [hU], by rw [hU]; exact hP, va_K.moved hW.alike hK, hok, hSt.to hS hU hW (hm_An_in hA hAn hS), hr⟩⟩ rfl (by rw [List.length_map]; exact hn) hl.1 (by rw [hst]; simp [hm_tv]) (hm_cat hw) hd ⟨hce, hsl⟩) (fun H1 locs1 hP1 hS1 => kk H1 locs1 la hP1 hS1 hl)
/-- ends -/
theorem jv_iret (hC : hm_C X own cc nL (some .int) d n S) {x : Int32} (hd : decode cc pc = .ok (.ireturn, 1)) : hm_U X pc ls [.int x] M (hm_Q X (some (.int x)) M) := by
  obtain ⟨⟨p, l, e, R, s⟩, ⟨m, args, below, meth, c⟩, ⟨dC, dI, dA, ad, A⟩, ⟨n', S', nL', cells, slots⟩⟩ := X
  obtain ⟨⟨hx, hb, hret, hml, hown, hts, hlk⟩, -, -⟩ := hC
  intro H locs la hP hS hl
  exact W.iret hx hb hret (fun t ht hW => ⟨rfl, by rw [ht]; exact hP, hS.F ht⟩) hS.2.2 hd hlk
theorem jv_zret (hC : hm_C X own cc nL (some .boolean) d n S) {x : Int32} (hn : narrow .boolean (.int x) = .int x) (hd : decode cc pc = .ok (.ireturn, 1)) : hm_U X pc ls [.int x] M (hm_Q X (some (.int x)) M) := by
  obtain ⟨⟨p, l, e, R, s⟩, ⟨m, args, below, meth, c⟩, ⟨dC, dI, dA, ad, A⟩, ⟨n', S', nL', cells, slots⟩⟩ := X
  obtain ⟨⟨hx, hb, hret, hml, hown, hts, hlk⟩, -, -⟩ := hC
  intro H locs la hP hS hl
  exact W.zret hx hb hret hn (fun t ht hW => ⟨rfl, by rw [ht]; exact hP, hS.F ht⟩) hS.2.2 hd hlk
theorem jv_lret (hC : hm_C X own cc nL (some .long) d n S) {x : Int64} (hd : decode cc pc = .ok (.lreturn, 1)) : hm_U X pc ls [.long x] M (hm_Q X (some (.long x)) M) := by
  obtain ⟨⟨p, l, e, R, s⟩, ⟨m, args, below, meth, c⟩, ⟨dC, dI, dA, ad, A⟩, ⟨n', S', nL', cells, slots⟩⟩ := X
  obtain ⟨⟨hx, hb, hret, hml, hown, hts, hlk⟩, -, -⟩ := hC
  intro H locs la hP hS hl
  exact W.lret hx hb hret (fun t ht hW => ⟨rfl, by rw [ht]; exact hP, hS.F ht⟩) hS.2.2 hd hlk
theorem jv_aret {C0 : String} (hC : hm_C X own cc nL (some (.object C0)) d n S) {x : Nat} (hd : decode cc pc = .ok (.areturn, 1)) : hm_U X pc ls [.ref x] M (hm_Q X (some (.ref x)) M) := by
  obtain ⟨⟨p, l, e, R, s⟩, ⟨m, args, below, meth, c⟩, ⟨dC, dI, dA, ad, A⟩, ⟨n', S', nL', cells, slots⟩⟩ := X
  obtain ⟨⟨hx, hb, hret, hml, hown, hts, hlk⟩, -, -⟩ := hC
  intro H locs la hP hS hl
  exact W.aret hx hb hret (Or.inl ⟨_, rfl⟩) (Or.inr ⟨_, rfl⟩) (fun t ht hW => ⟨rfl, by rw [ht]; exact hP, hS.F ht⟩) hS.2.2 hd hlk
theorem jv_vret (hC : hm_C X own cc nL none d n S) (hd : decode cc pc = .ok (.return_, 1)) : hm_U X pc ls [] M (hm_Q X none M) := by
  obtain ⟨⟨p, l, e, R, s⟩, ⟨m, args, below, meth, c⟩, ⟨dC, dI, dA, ad, A⟩, ⟨n', S', nL', cells, slots⟩⟩ := X
  obtain ⟨⟨hx, hb, hret, hml, hown, hts, hlk⟩, -, -⟩ := hC
  intro H locs la hP hS hl
  exact W.vret hx hb hret (fun t ht hW => ⟨rfl, by rw [ht]; exact hP, hS.F ht⟩) hS.2.2 hd hlk
end Calls2
theorem hm_args_map {ad : Nat → Nat} : ∀ (k : Nat) (as : List Value), lv_args k (as.map (hm_tv ad)) = (lv_args k as).map (hm_lv ad) := by
  intro k as
  induction as generalizing k with
  | nil => rfl
  | cons v as ih => simp only [List.map_cons, lv_args, hm_tv_cat, ih, hm_lv]
theorem hm_sl_len {ad : Nat → Nat} : ∀ (as : List Value), (lg_sl (as.map (hm_tv ad))).length = (lg_sl as).length := by
  intro as
  induction as with
  | nil => rfl
  | cons v as ih =>
    simp only [lg_sl, List.map_cons, List.flatMap_cons, List.length_append, hm_tv_cat] at ih ⊢
    rw [ih]
    by_cases h : v.category = 2 <;> simp [h]
/-- a method's contract out of the walk of its body -/
theorem hm_enter {y : MethodName} {cc : ByteArray} {nL : Nat} {ret : Option FieldType} {d n np : Nat} {S : hm_S} {as : List Value} {M : hm_M} {r : Option Value} {M' : hm_M} (hm : hm_MM y cc nL ret np) (ha : (lg_sl as).length ≤ nL)
    (body : ∀ X : hm_X, hm_C X y.cls cc nL ret d n S → hm_U X 0 (lv_args 0 as) [] M (hm_Q X r M')) : hm_KM y cc nL ret d n S as M r M' := by
  intro l dC dI dA ad sz
  refine Met.ofW (cc := cc) (maxL := nL) (ret := ret) hm.2.2.2.2.2.1 rfl ?_
  intro p e s m args below meth c s₁ B hml hv
  obtain ⟨rfl, hsz, hP, hK, hok, hSt, hr⟩ := hv
  have hts := atoms_spec (ws := Cond.code y cc nL ret :: gW) B.pre
  subst hsz
  rw [lg_entry_eq]
  have hl := lv_entry (as.map (hm_tv ad)) (n := nL) (by rw [hm_sl_len]; exact ha)
  rw [hm_args_map] at hl
  exact body ((p, l, e, hm_room d, s), (m, (as.map (hm_tv ad)).toArray, below, meth, c), (dC, dI, dA, ad, hm_An ad n s.heap.size), (n, S, nL, 0, 0))
    ⟨⟨B.exec, B.bytes, B.returns, hml, findClass_of_methodNamed B.named, fun w hw => hts w (List.mem_cons_of_mem _ hw), B.notSynchronized⟩, ⟨fun q h => Or.inr h, hK, hok, fun i hi => Or.inl ⟨i, hi, rfl⟩, hSt⟩, ⟨rfl, rfl, rfl, Nat.le_refl _, Nat.le_refl _, Nat.le_refl _, Nat.le_refl _, hr⟩⟩ s.heap [] _ hP va_S.rf hl
