/-! the law's own clouded: it calls, and catches -/
theorem hm_Met_of_vx {l : Launch} {y : MethodName} {ws : List Cond} {rm : Room} {Pc : Array Value → State → Prop} {Qc : Array Value → State → Outcome → State → Prop} {mc ms : Nat} {free : Addr → Prop} (h : vx_Met l y ws rm Pc Qc (fun _ _ _ => False) mc ms free) : Met l y ws rm Pc Qc mc ms free := by
  intro p e h1 h2 h3 s m args below h4 h5 h6 h7
  obtain ⟨k, o, g1, g2, g3, hq⟩ := h p e h1 h2 h3 s m args below h4 h5 h6 h7
  refine ⟨k, o, g1, g2, g3, ?_⟩
  rcases hq with hq | ⟨q, ho, E, ce, L, hx, -⟩
  · exact hq
  · exact hx.elim
theorem kl_words {y : MethodName} : GoodIn gW (Cond.code yX11_clouded cX11_clouded 6 (some .int) :: gW) := fun w h => by
  rcases List.mem_cons.mp h with h | h
  · subst h; exact gW_good _ mm_Ps_clouded.1
  · exact gW_good _ h
/-- behind the call, whatever came of it -/
theorem kl_call {n d : Nat} {S : hm_S} {p : Program} {l : Launch} {e : Env} {s : State} {m : MethodId} {args : Array Value} {below : List Frame} {meth : Method} {c : Code} {dC : Nat → ClassId} {dI : Nat → Nat → Nat} {dA : FieldType → ClassId} {ad : Nat → Nat} {A : Nat → Prop} {v0 v3 : Nat} {v1 v2 : Int32} {M : hm_M} {Q : State → Prop} {la : Array Slot} {H : Heap} {locs : List Loc} {R : Room} {Qc : Array Value → State → Outcome → State → Prop} {XC : String → State → State → Prop}
    (hd : 41 ≤ d) (hC : hm_C ((p, l, e, R, s), (m, args, below, meth, c), (dC, dI, dA, ad, A), (n, S, 5, 0, 0)) RL cL_clouded 5 (some .int) d n S) (hTh : hm_Th ad A s s.heap) (hs : S v0 = some (.inr 11)) (hR1 : 1 ≤ R.cells) (hR2 : 6 ≤ R.slots)
    (hM : vx_Met l yX11_clouded (.code yX11_clouded cX11_clouded 6 (some .int) :: gW) (hm_roomA 40 1 6) (hm_PcT dC dI dA ad n S H.size [.ref v0, .int v1, .int v2] M) Qc XC 1 6 (hm_An ad n H.size))
    (hP : va_P (dC, dI) vwCl (hm_ws dA ad S n M) H) (hS : va_S A s.heap H locs) (hsz : la.size = 5)
    (kn : ∀ (v : Option Value) (st₀ t : State) (locs1 : List Loc), st₀.heap = H → Qc (([.ref v0, .int v1, .int v2] : List Value).map (hm_tv ad)).toArray st₀ (.returned v) t → (va_F (hm_An ad n H.size) st₀ t → va_S A s.heap t.heap locs1) → W p l e R s m args below meth c t.heap locs1 1 6 Q (F0 m 8 la (v.toList ++ [.int 0, .ref (ad v3)])))
    (kx : ∀ (q : Addr) (st₀ t : State) (locs1 : List Loc) (E : String) (ce : Cell), st₀.heap = H → XC E st₀ t → t.heap[q]? = some ce → ce.vm = .none → s.vm.findClass E = some ce.cls → (va_F (hm_An ad n H.size) st₀ t → va_S A s.heap t.heap locs1) → vx_W p l e R s m args below meth c t.heap locs1 1 6 Q (F0 m 5 la [.int 0, .ref (ad v3)]) q) :
    W p l e R s m args below meth c H locs 0 0 Q (F0 m 5 la ((([.int v2, .int v1, .ref v0, .int 0, .ref v3] : List Value)).map (hm_tv ad))) := by
  obtain ⟨⟨hx, hb, hret, hml, hown, hts, hlk⟩, ⟨hA, hK, hok, hAn, hSt⟩, ⟨-, -, -, hfr, hlo, hce, hsl, hr⟩⟩ := hC
  obtain ⟨r1, r2⟩ := hr _ _ hs
  obtain ⟨hm1, hm2, hm3, hm4, hm5, hm6, hm7⟩ := mm_Ps_clouded
  have cw : CallW R s args RL yX11_clouded.cls 7 yX11_clouded cX11_clouded 6 (some .int) (.code yX11_clouded cX11_clouded 6 (some .int) :: gW) (hm_roomA 40 1 6) 1 6 2 := by
    refine ⟨⟨rfl, rfl, Nat.le_trans hd hfr, ?_, pay_in hts (kl_words (y := yX11_clouded)), List.mem_cons_self, hts _ hm1, hts _ hm2, ⟨hm3, hm4⟩, ?_, hts _ cx_ml⟩, hts _ cx_mi.1, hts _ cx_mi.2⟩
    · show 8 + (6 + 11) + 64 * 40 ≤ R.locals
      omega
    · intro sig h
      rw [h] at hm5
      exact (Option.some.inj hm5).symm
  have hin := hm_An_in hA hAn hS
  have hrun := vx_runV (below := below) (meth := meth) (e := e) (locs := locs) (cells := 0) (slots := 0) (As := [.int v1, .int v2]) (b := ad v0) (rest := [.int 0, .ref (ad v3)]) (g := F0 m 5 la ((([.int v2, .int v1, .ref v0, .int 0, .ref v3] : List Value)).map (hm_tv ad))) ⟨hx, hb, hml, hown, hts⟩ hM cw
    ⟨hm_blindT, va_recv hK hP (ci := 11) (q := (RX11, TX11, 10)) rfl (by rw [hm_ws_at r1 r2, hm_E_obj hs]), fun U hU hW => ⟨⟨rfl, by rw [hU], by rw [hU]; exact hP, va_K.moved hW.alike hK, hok, hSt.to hS hU hW hin, hr⟩, hTh.to hS hU hW hin⟩⟩ rfl rfl hsz rfl (Nat.le_of_ble_eq_true rfl) dL_clouded_5 ⟨hR1, hR2⟩
  have key : ∀ (st₀ t T' : State) (L : List Loc), st₀.heap = H → T'.heap = t.heap → (∀ z ∈ L, hm_An ad n H.size z.base) → va_F (hm_An ad n H.size) st₀ t → va_S A s.heap t.heap (locs ++ L) := by
    intro st₀ t T' L h0 e1 hL hF
    obtain ⟨hz, hk⟩ := hF
    rw [h0] at hz hk
    exact ⟨Nat.le_trans hS.1 hz, fun q h1 h2 => by rw [hk q (Nat.lt_of_lt_of_le h1 hS.1) (fun z => h2 (hin q z))]; exact hS.2.1 q h1 h2, fun q hq => by
      rcases List.mem_append.mp hq with h | h
      · exact hS.2.2 q h
      · exact hin _ (hL q h)⟩
  intro T hT X
  rcases hrun T hT X with ⟨v, st₀, t, T', L, h0, X', hL, e1, e2, hq, go⟩ | ⟨q, st₀, t, T', L, E, ce, h0, X', hL, e1, e2, hxc, hce, hcv, hcl, go⟩
  · obtain ⟨t2, a1, b1⟩ := kn v st₀ t (locs ++ L) h0 hq (key st₀ t T' L h0 e1 hL) T' e1 X'
    exact ⟨t2, go t2 a1, b1⟩
  · obtain ⟨t2, a1, b1⟩ := kx q st₀ t (locs ++ L) E ce h0 hxc hce hcv hcl (key st₀ t T' L h0 e1 hL) T' e1 X'
    exact ⟨t2, go.trans a1, b1⟩
