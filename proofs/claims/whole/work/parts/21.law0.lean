/-! THE CLAIM OUT OF ONE WALK OF THE LAW'S BODY. Your part is whole_start (and what it stands on); all else here is the same for every law, but numbers. -/
def R_law : String := "PaneSpotsLaw"
def lw_P (b : Addr) (xs : List Int32) (args : Array Value) (s : State) : Prop := args = #[.ref b] ∧ s.IntsAt b xs ∧ xs.length ≤ 3584 ∧ (Jvm.Cond.and given_1 narrow_1).before args s = true
def lw_Q (_ : Array Value) (s : State) (o : Outcome) (t : State) : Prop := o = .returned (some (.int 1)) ∧ Framed s o t [] 601024 7293034
def lw_Z (below : List Frame) (a : Array Value) (s : State) : State → Prop := fun t => ∃ o, t.status = .running ∧ Ended t below o ∧ lw_Q a s o t
/-- the law's own end, with 1 on the stack, nothing written that was there before, its room as the claim has it -/
theorem lw_ret {p : Program} {l : Launch} {e : Env} {s : State} {m : MethodId} {below : List Frame} {meth : Method} {c : Code} {b : Nat} (hx : p.tables.exec = Jvm.exec) (hb : c.code = code) (hr : meth.sig.returnType = ret) (hlocks : meth.locks = false) {pc : Nat} {H : Heap} {ls : Array Slot} (hdg : decode code pc = .ok (.ireturn, 1)) : W p l e room_1 s m #[Value.ref b] below meth c H [] 601024 7293034 (lw_Z below #[Value.ref b] s) (F0 m pc ls [.int 1]) := by
  intro T hT X
  obtain ⟨fs, hret, hrun, hended, hW, hframe⟩ := X.leave (v := some (.int 1)) (hlocks := hlocks) (fun h => by rw [hr] at h; cases h)
  have hmeth' : T.vm.method? m = some meth := X.method'
  refine ⟨T.setFrames fs, ?_, .returned (some (.int 1)), hrun, hended, rfl, ⟨_, rfl⟩, hW, hframe⟩
  jvm_step X.here [X.here.top, hx, hb, hdg, hmeth', hr, ret, narrow_b1]
  (try refine ⟨rfl, ?_⟩); (try refine ⟨rfl, ?_⟩)
  first | (intro acts; rw [hret _ acts rfl rfl rfl]) | rw [hret _ _ rfl rfl rfl]
  exact Steps.refl _
/-- what holds at the law's entry: the machine, the code, the tables' words (any of lw_tbl by 'hts w (by decide +kernel)'), the script of L ints xs at the cell b, what the Statement gives of the start (any of its parts by flat_of_before) -/
def lw_At (p : Program) (s : State) (m : MethodId) (meth : Method) (c : Code) (b L : Nat) (xs : Nat → Int32) : Prop :=
  p.tables.exec = Jvm.exec ∧ c.code = code ∧ meth.sig.returnType = ret ∧ c.maxLocals = 7 ∧ s.vm.findClass R_law = some m.cls ∧ (∀ w ∈ lw_tbl, w.before #[Value.ref b] s = true) ∧ va_X b L xs s s.heap ∧ b < s.heap.size ∧ meth.locks = false ∧ (Jvm.Cond.and given_1 narrow_1).before #[Value.ref b] s = true
/-! the law's context and rows -/
def hm_QL (X : hm_X) : State → Prop := match X with
  | ((_, _, _, _, s), (_, args, below, _, _), _, _) => lw_Z below args s
/-- q more rounds have room -/
def hm_LC (q L : Nat) (xs : Nat → Int32) (n : Nat) (S : hm_S) (X : hm_X) : Prop := hm_C X RL code 7 ret 1000 n S ∧ match X with
  | ((p, l, e, R, s), (m, args, below, meth, c), (dC, dI, dA, ad, A), (n', S', nL', cells, slots)) => R = room_1 ∧ args = #[.ref (ad 999999)] ∧ va_X (ad 999999) L xs s s.heap ∧ (A = fun r : Nat => s.heap.size ≤ r) ∧ ad 999999 < s.heap.size ∧ hm_Th ad A s s.heap ∧ l.stackTraces = false ∧ cells + q ≤ 601024 ∧ slots + 6 * q ≤ 7293034 ∧ L ≤ 3584
theorem hm_LC.down {q L : Nat} {xs : Nat → Int32} {n : Nat} {S : hm_S} {X : hm_X} (h : hm_LC (q + 1) L xs n S X) : hm_LC q L xs n S X := by
  obtain ⟨⟨p, l, e, R, s⟩, ⟨m, args, below, meth, c⟩, ⟨dC, dI, dA, ad, A⟩, ⟨n', S', nL', cells, slots⟩⟩ := X
  obtain ⟨h0, h1, h2, h3, h4, h5, h6, h7, h8, h9, h10⟩ := h
  exact ⟨h0, h1, h2, h3, h4, h5, h6, h7, by omega, by omega, h10⟩
def hm_in (i : Int32) (L : Nat) : Bool := decide (0 ≤ i) && decide (i.toNatClampNeg < L)
theorem hm_in_ok {i : Int32} {L : Nat} (h : hm_in i L = true) : vp_in i L := by
  simp only [hm_in, Bool.and_eq_true, decide_eq_true_eq] at h
  rintro (h1 | h1)
  · exact absurd h.1 (Int32.not_le.mpr h1)
  · omega
section RowsL
variable {X : hm_X} {q L : Nat} {xs : Nat → Int32} {n : Nat} {S : hm_S} {pc : Nat} {ls : List (Nat × Value)} {st : List Value} {M : hm_M} {Q : State → Prop}
theorem jv_slen (hL : hm_LC q L xs n S X) (hd : decode code pc = .ok (.arraylength, 1)) (kk : hm_U X (pc + 1) ls (.int (Int32.ofNat L) :: st) M Q) : hm_U X pc ls (.ref 999999 :: st) M Q := by
  obtain ⟨⟨p, l, e, R, s⟩, ⟨m, args, below, meth, c⟩, ⟨dC, dI, dA, ad, A⟩, ⟨n', S', nL', cells, slots⟩⟩ := X
  obtain ⟨⟨⟨hx, hb, -⟩, -, -⟩, h1, h2, h3, h4, h5, h6, h7, h8, h9, h10⟩ := hL
  intro H locs la hP hS hl
  exact va_slen hx hb h3 h5 (by rw [h4]; exact Nat.not_le.mpr h5) hS hd (kk H locs la hP hS hl)
theorem jv_sld (hL : hm_LC q L xs n S X) {i : Int32} (hi : hm_in i L = true) (hd : decode code pc = .ok (.iaload, 1)) (kk : hm_U X (pc + 1) ls (.int (xs i.toNatClampNeg) :: st) M Q) : hm_U X pc ls (.int i :: .ref 999999 :: st) M Q := by
  obtain ⟨⟨p, l, e, R, s⟩, ⟨m, args, below, meth, c⟩, ⟨dC, dI, dA, ad, A⟩, ⟨n', S', nL', cells, slots⟩⟩ := X
  obtain ⟨⟨⟨hx, hb, -⟩, -, -⟩, h1, h2, h3, h4, h5, h6, h7, h8, h9, h10⟩ := hL
  intro H locs la hP hS hl
  exact va_sld hx hb h3 h5 (by rw [h4]; exact Nat.not_le.mpr h5) hS (hm_in_ok hi) hd (kk H locs la hP hS hl)
theorem jv_lawret (hL : hm_LC q L xs n S X) (hd : decode code pc = .ok (.ireturn, 1)) : hm_U X pc ls [.int 1] M (hm_QL X) := by
  obtain ⟨⟨p, l, e, R, s⟩, ⟨m, args, below, meth, c⟩, ⟨dC, dI, dA, ad, A⟩, ⟨n', S', nL', cells, slots⟩⟩ := X
  obtain ⟨⟨⟨hx, hb, hret, hml, hown, hts, hlk⟩, -, -⟩, h1, h2, h3, h4, h5, h6, h7, h8, h9, h10⟩ := hL
  subst h1; subst h2; subst h4
  intro H locs la hP hS hl
  exact va_forget hS.2.2 (W.widen (k := 601024) (n := 7293034) (by omega) (by omega) (lw_ret hx hb hret hlk hd))
theorem jv_callLC (hL : hm_LC (q + 1) L xs n S X) {v0 v3 : Nat} {v1 v2 k : Int32} {M1 : hm_M} (hd : decode code pc = .ok (.invokestatic 123, 3))
    (hk : ∀ (l : Launch) (_ : l.stackTraces = false) (dC : Nat → ClassId) (dI : Nat → Nat → Nat) (dA : FieldType → ClassId) (ad : Nat → Nat) (sz : Nat), Met l yL_clouded (.codeWith yL_clouded cL_clouded 5 (some .int) [(0, 10, 13, 13)] :: gW) (hm_roomA 41 1 6) (hm_PcT dC dI dA ad n S sz [.ref v0, .int v1, .int v2, .ref v3] M) (hm_Qc dC dI dA ad n S (hm_An ad n sz) (some (.int k)) M1) 1 6 (hm_An ad n sz))
    (kk : ∀ X' : hm_X, hm_LC q L xs n S X' → hm_QL X' = hm_QL X → hm_U X' (pc + 3) ls [.int k] M1 (hm_QL X')) : hm_U X pc ls [.ref v3, .int v2, .int v1, .ref v0] M (hm_QL X) := by
  obtain ⟨⟨p, l, e, R, s⟩, ⟨m, args, below, meth, c⟩, ⟨dC, dI, dA, ad, A⟩, ⟨n', S', nL', cells, slots⟩⟩ := X
  obtain ⟨⟨⟨hx, hb, hret, hml, hown, hts, hlk⟩, ⟨hA, hK, hok, hAn, hSt⟩, ⟨rfl, rfl, rfl, hfr, hlo, hce, hsl, hr⟩⟩, h1, h2, h3, h4, h5, h6, h7, h8, h9, h10⟩ := hL
  have hRc : R.cells = 601024 := by rw [h1]; rfl
  have hRs : R.slots = 7293034 := by rw [h1]; rfl
  intro H locs la hP hS hl
  have hin := hm_An_in hA hAn hS
  have hgd : GoodIn gW (.codeWith yL_clouded cL_clouded 5 (some .int) [(0, 10, 13, 13)] :: gW) := fun w h => by
    rcases List.mem_cons.mp h with h | h
    · subst h; exact gW_good _ cx_cw
    · exact gW_good _ h
  have cw : vx_CSW R s args RL 123 yL_clouded cL_clouded 5 (some .int) [(0, 10, 13, 13)] (.codeWith yL_clouded cL_clouded 5 (some .int) [(0, 10, 13, 13)] :: gW) (hm_roomA 41 1 6) 1 6 4 :=
    ⟨⟨rfl, rfl, Nat.le_trans (by decide) hfr, Nat.le_trans (by decide) hlo, pay_in hts hgd, List.mem_cons_self⟩, hts _ cx_cw, hts _ cx_iniL, ⟨by decide, by decide⟩, fun sig h => by
      have h5 : (parseMethodDescriptor yL_clouded.desc).map (fun d => d.parameters.length) = some 4 := by decide +kernel
      rw [h] at h5
      exact (Option.some.inj h5).symm, hts _ cx_mlL, hts _ cx_st⟩
  have hrun := vx_runSW (below := below) (meth := meth) (e := e) (locs := locs) (cells := cells) (slots := slots) (H := H) (As := [.ref (ad v0), .int v1, .int v2, .ref (ad v3)]) (rest := []) (g := F0 m pc la (([.ref v3, .int v2, .int v1, .ref v0] : List Value).map (hm_tv ad))) ⟨hx, hb, hml, hown, hts⟩ (hk l h7 dC dI dA ad H.size) cw
    ⟨hm_blindT, fun U hU hW => ⟨⟨rfl, by rw [hU], by rw [hU]; exact hP, va_K.moved hW.alike hK, hok, hSt.to hS hU hW hin, hr⟩, h6.to hS hU hW hin⟩⟩ rfl rfl hl.1 rfl (Nat.le_of_ble_eq_true rfl) hd ⟨by omega, by omega⟩
  intro T hT X
  obtain ⟨v, st₀, t, T', L1, h0, X', hL1, e1, e2, ⟨hv, hPt, hz, hkk⟩, go⟩ := hrun T hT X
  cases hv
  rw [h0] at hz hkk
  obtain ⟨t2, a1, b1⟩ := kk ((p, l, e, R, s), (m, args, below, meth, c), (dC, dI, dA, ad, A), (_, _, 7, cells + 1, slots + 6))
    ⟨⟨⟨hx, hb, hret, hml, hown, hts, hlk⟩, ⟨hA, hK, hok, hAn, hSt⟩, ⟨rfl, rfl, rfl, hfr, hlo, by omega, by omega, hr⟩⟩, h1, h2, h3, h4, h5, h6, h7, by omega, by omega, h10⟩ rfl
    T'.heap (locs ++ L1) la (by rw [e1]; exact hPt)
    ⟨Nat.le_trans hS.1 (by rw [e1]; exact hz), fun q h1 h2 => by rw [e1, hkk q (Nat.lt_of_lt_of_le h1 hS.1) (fun z => h2 (hin q z))]; exact hS.2.1 q h1 h2, fun q hq => by
      rcases List.mem_append.mp hq with h | h
      · exact hS.2.2 q h
      · exact hin _ (hL1 q h)⟩ hl T' rfl X'
  exact ⟨t2, go t2 a1, b1⟩
end RowsL
