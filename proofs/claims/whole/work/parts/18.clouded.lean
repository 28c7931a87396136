/-! clouded of the class: it answers, or throws -/
def hm_PcT (dC : Nat → ClassId) (dI : Nat → Nat → Nat) (dA : FieldType → ClassId) (ad : Nat → Nat) (n : Nat) (S : hm_S) (sz : Nat) (as : List Value) (M : hm_M) : Array Value → State → Prop := fun a U => hm_Pc dC dI dA ad n S sz as M a U ∧ hm_Th ad (hm_An ad n sz) U U.heap
theorem hm_blindT {dC : Nat → ClassId} {dI : Nat → Nat → Nat} {dA : FieldType → ClassId} {ad : Nat → Nat} {n : Nat} {S : hm_S} {sz : Nat} {as : List Value} {M : hm_M} : FrameBlind (hm_PcT dC dI dA ad n S sz as M) := fun a U g mk h => ⟨hm_blind a U g mk h.1, h.2.call⟩
/-- the seed or the guild is none such -/
def hm_badC (M : hm_M) (v0 : Nat) (v1 v2 : Int32) : Prop := v1 < 0 ∨ 9999 < v1
theorem kx_clouded {n d : Nat} {S : hm_S} {v0 : Nat} {v1 v2 : Int32} {M : hm_M} {r : Int32} {M' : hm_M} (hd : 40 ≤ d) (hF : f_Ps_clouded S v0 v1 v2 M = some (r, M')) (l : Launch) (dC : Nat → ClassId) (dI : Nat → Nat → Nat) (dA : FieldType → ClassId) (ad : Nat → Nat) (sz : Nat) :
    vx_Met l yX11_clouded (.code yX11_clouded cX11_clouded 6 (some .int) :: gW) (hm_roomA d 1 6) (hm_PcT dC dI dA ad n S sz [.ref v0, .int v1, .int v2] M) (hm_Qc dC dI dA ad n S (hm_An ad n sz) (some (.int r)) M') (fun _ _ _ => False) 1 6 (hm_An ad n sz) := by
  refine vx_ofW (cc := cX11_clouded) (maxL := 6) (ret := some .int) (by decide) rfl ?_
  intro p e s m args below meth c s₁ B hml hex hv
  obtain ⟨⟨rfl, hsz, hP, hK, hok, hSt, hr⟩, hTh⟩ := hv
  have hts := atoms_spec (ws := Cond.code yX11_clouded cX11_clouded 6 (some .int) :: gW) B.pre
  subst hsz
  rw [lg_entry_eq]
  have hl := lv_entry (([.ref v0, .int v1, .int v2] : List Value).map (hm_tv ad)) (n := 6) (Nat.le_of_ble_eq_true rfl)
  rw [hm_args_map] at hl
  refine vx_ret (W.widen (k := 1) (n := 6) (Nat.zero_le _) (Nat.zero_le _) ?_)
  exact u_Ps_clouded (X := ((p, l, e, hm_roomA d 1 6, s), (m, (([.ref v0, .int v1, .int v2] : List Value).map (hm_tv ad)).toArray, below, meth, c), (dC, dI, dA, ad, hm_An ad n s.heap.size), (n, S, 6, 1, 6)))
    ⟨⟨B.exec, B.bytes, B.returns, hml, findClass_of_methodNamed B.named, fun w hw => hts w (List.mem_cons_of_mem _ hw), B.notSynchronized⟩, ⟨fun q h => Or.inr h, hK, hok, fun i hi => Or.inl ⟨i, hi, rfl⟩, hSt⟩, ⟨rfl, rfl, rfl, Nat.le_trans (by decide) hd, Nat.mul_le_mul (Nat.le_refl _) (Nat.le_trans (by decide) hd), Nat.le_refl _, Nat.le_refl _, hr⟩⟩ hF s.heap [] _ hP va_S.rf hl
/-- behind the tests of its arguments -/
theorem kt_throw {n d : Nat} {S : hm_S} {X : hm_X} {ls : List (Nat × Value)} {M : hm_M} (hd : 40 ≤ d) (hC : hm_C X RX11 cX11_clouded 6 (some .int) d n S) (hT : match X with | ((_, _, _, _, s), _, (_, _, _, ad, A), _) => hm_Th ad A s s.heap) (hlt : match X with | ((_, l, _, R, _), (_, _, _, _, c), _, (_, _, _, cells, slots)) => l.stackTraces = false ∧ (∀ x ∈ c.exceptionTable.toList, False) ∧ cells = 0 ∧ slots = 0 ∧ 1 ≤ R.cells ∧ 6 ≤ R.slots) :
    hm_U X 24 ls [] M (match X with | ((_, _, _, _, s), (_, args, below, _, _), (dC, dI, dA, ad, A), (n, S, _, _, _)) => vx_MQ below (fun _ _ _ _ => False) (fun E st t => E = hm_NSE ∧ va_P (dC, dI) vwCl (hm_ws dA ad S n M) t.heap ∧ va_F A st t) args s 1 6 A) := by
  obtain ⟨⟨p, l, e, R, s⟩, ⟨m, args, below, meth, c⟩, ⟨dC, dI, dA, ad, A⟩, ⟨n', S', nL', cells, slots⟩⟩ := X
  obtain ⟨⟨hx, hb, hret, hml, hown, hts, hlk⟩, ⟨hA, hK, hok, hAn, hSt⟩, ⟨rfl, rfl, rfl, hfr, hlo, hce, hsl, hr⟩⟩ := hC
  obtain ⟨h1, h2, h3, h4, h5, h6, h7⟩ := hT
  obtain ⟨htr, hex, rfl, rfl, hRc, hRs⟩ := hlt
  intro H locs la hP hS hl
  have hat : ∀ w ∈ hm_atS, w.before args s = true := vx_hat (fun w hw => hts w (cx_good w hw)) cx_bad (vx_c (h4.use rfl) (vx_c (h5.use rfl) (vx_c (h6.use rfl) (vx_c (h7.use rfl) vx_n))))
  refine hm_throwSW (Yn := "java/lang/RuntimeException") (names := ["java/lang/Exception"]) (cls := hm_NSE) (text := hm_tx2) (ix := 13) (bx := prog_31_method_4_code) (A := A) hx hb htr hown (by decide) (by decide) (by decide) dx_0 dx_1 dx_2 dx_5 (hts _ cx_link) (hts _ cx_ini) h3 hat cx_ot h1 h2 hS (by rw [hml]; exact hl.1) dX11_clouded_24 dX11_clouded_27 dX11_clouded_28 dX11_clouded_31 dX11_clouded_34 (fun x hx => (hex x hx).elim) ?_ ?_ hRc hRs hlk (fun t hvm hz hq => ⟨rfl, hP.kept (fun k q hk => hq _ (hP k q hk).lt), ⟨Nat.le_trans hS.1 hz, fun q h1 h2 => (hq q (Nat.lt_of_lt_of_le h1 hS.1)).trans (hS.2.1 q h1 h2)⟩⟩) hS.2.2 (Nat.le_refl _) (Nat.le_refl _)
  · show 5 < R.frames
    omega
  · show 0 + (13 * 3 + 43) ≤ R.locals
    omega
/-- none such: the seed, or the guild -/
def hm_badA (S : hm_S) (v0 : Nat) (v1 v2 : Int32) (M : hm_M) : Prop := v1 < 0 ∨ 9999 < v1 ∨ (¬ v2 = -1 ∧ S v0 = some (.inr 11) ∧ f_Ps_isGuild S v0 v2 M = some (0, M))
def hm_XC (dC : Nat → ClassId) (dI : Nat → Nat → Nat) (dA : FieldType → ClassId) (ad : Nat → Nat) (n : Nat) (S : hm_S) (A : Nat → Prop) (M : hm_M) : String → State → State → Prop := fun E st t => E = hm_NSE ∧ va_P (dC, dI) vwCl (hm_ws dA ad S n M) t.heap ∧ va_F A st t
theorem kx_thrown {n d : Nat} {S : hm_S} {v0 : Nat} {v1 v2 : Int32} {M : hm_M} (hd : 40 ≤ d) (hB : hm_badA S v0 v1 v2 M) (l : Launch) (htr : l.stackTraces = false) (dC : Nat → ClassId) (dI : Nat → Nat → Nat) (dA : FieldType → ClassId) (ad : Nat → Nat) (sz : Nat) :
    vx_Met l yX11_clouded (.code yX11_clouded cX11_clouded 6 (some .int) :: gW) (hm_roomA d 1 6) (hm_PcT dC dI dA ad n S sz [.ref v0, .int v1, .int v2] M) (fun _ _ _ _ => False) (hm_XC dC dI dA ad n S (hm_An ad n sz) M) 1 6 (hm_An ad n sz) := by
  refine vx_ofW (cc := cX11_clouded) (maxL := 6) (ret := some .int) (by decide) rfl ?_
  intro p e s m args below meth c s₁ B hml hex hv
  obtain ⟨⟨rfl, hsz, hP, hK, hok, hSt, hr⟩, hTh⟩ := hv
  have hts := atoms_spec (ws := Cond.code yX11_clouded cX11_clouded 6 (some .int) :: gW) B.pre
  subst hsz
  rw [lg_entry_eq]
  have hl := lv_entry (([.ref v0, .int v1, .int v2] : List Value).map (hm_tv ad)) (n := 6) (Nat.le_of_ble_eq_true rfl)
  rw [hm_args_map] at hl
  obtain ⟨X, hX⟩ : ∃ X : hm_X, X = ((p, l, e, hm_roomA d 1 6, s), (m, (([.ref v0, .int v1, .int v2] : List Value).map (hm_tv ad)).toArray, below, meth, c), (dC, dI, dA, ad, hm_An ad n s.heap.size), (n, S, 6, 0, 0)) := ⟨_, rfl⟩
  have hC : hm_C X RX11 cX11_clouded 6 (some .int) d n S := by
    subst hX
    exact ⟨⟨B.exec, B.bytes, B.returns, hml, findClass_of_methodNamed B.named, fun w hw => hts w (List.mem_cons_of_mem _ hw), B.notSynchronized⟩, ⟨fun q h => Or.inr h, hK, hok, fun i hi => Or.inl ⟨i, hi, rfl⟩, hSt⟩, ⟨rfl, rfl, rfl, Nat.le_refl _, Nat.le_refl _, Nat.zero_le _, Nat.zero_le _, hr⟩⟩
  have hthr : ∀ ls : List (Nat × Value), hm_U X 24 ls [] M (vx_MQ below (fun _ _ _ _ => False) (hm_XC dC dI dA ad n S (hm_An ad n s.heap.size) M) (([.ref v0, .int v1, .int v2] : List Value).map (hm_tv ad)).toArray s 1 6 (hm_An ad n s.heap.size)) := by
    intro ls
    subst hX
    exact kt_throw (ls := ls) (M := M) hd hC hTh ⟨htr, hex, rfl, rfl, Nat.le_refl _, Nat.le_refl _⟩
  have goal : hm_U X 0 [(0, .ref v0), (1, .int v1), (2, .int v2)] [] M (vx_MQ below (fun _ _ _ _ => False) (hm_XC dC dI dA ad n S (hm_An ad n s.heap.size) M) (([.ref v0, .int v1, .int v2] : List Value).map (hm_tv ad)).toArray s 1 6 (hm_An ad n s.heap.size)) := by
    refine jv_iload_n hC 1 dX11_clouded_0 rfl ?_
    refine jv_if_lt hC 24 dX11_clouded_1 (by decide) (fun _ => hthr _) (fun h1 => ?_)
    refine jv_iload_n hC 1 dX11_clouded_4 rfl ?_
    refine jv_sipush hC (v := 9999) dX11_clouded_5 (by decide) ?_
    refine jv_icmp_gt hC 24 dX11_clouded_8 (by decide) (fun _ => hthr _) (fun h2 => ?_)
    rcases hB with h | h | ⟨h3, hs, hf⟩
    · exact absurd h h1
    · exact absurd h h2
    refine jv_iload_n hC 2 dX11_clouded_11 rfl ?_
    refine jv_iconst hC (v := -1) dX11_clouded_12 (by decide) ?_
    refine jv_icmp_eq hC 35 dX11_clouded_13 (by decide) (fun h => absurd h h3) (fun _ => ?_)
    refine jv_pc 16 rfl ?_
    refine jv_aload_n hC 0 dX11_clouded_16 rfl ?_
    refine jv_iload_n hC 2 dX11_clouded_17 rfl ?_
    refine jv_callV hC (st := []) [.int v2] (k_Ps_isGuild hf) mm_Ps_isGuild mi_Ps_isGuild ml_X11_109 dX11_clouded_18 hs rfl (Nat.le_trans (Nat.le_of_ble_eq_true rfl) hd) rfl rfl (Nat.le_of_ble_eq_true rfl) ?_
    refine jv_nf 21 [.int 0] rfl rfl ?_
    refine jv_if_ne hC 35 dX11_clouded_21 (by decide) (fun h => absurd rfl h) (fun _ => ?_)
    exact jv_pc 24 rfl (hthr _)
  subst hX
  exact goal s.heap [] _ hP va_S.rf hl
