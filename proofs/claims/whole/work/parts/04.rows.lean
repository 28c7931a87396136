/-! THE JUDGEMENT: the machine at a frame over the memory M comes to a state with Q -/
def hm_lens : List Nat := [106, 8]
def hm_byts : List (List Int32) := [[102, 108, 111, 111, 114, 32, 103, 117, 105, 108, 100, 32, 108, 105, 107, 101, 115, 32, 111, 119, 101, 115, 32, 112, 97, 110, 101, 32, 111, 102, 32, 99, 111, 108, 111, 117, 114, 32, 101, 97, 115, 116, 32, 100, 101, 101, 112, 32, 100, 97, 114, 107, 32, 114, 101, 110, 116, 32, 99, 108, 111, 117, 100, 32, 110, 111, 116, 32, 97, 110, 100, 32, 111, 114, 32, 119, 101, 101, 107, 32, 104, 111, 117, 114, 32, 99, 111, 108, 117, 109, 110, 32, 114, 111, 119, 32, 120, 32, 121, 32, 109, 105, 120, 101, 100, 32], [40, 41, 60, 61, 43, 45, 42, 59]]
def hm_tx0 : String := "floor guild likes owes pane of colour east deep dark rent cloud not and or week hour column row x y mixed "
def hm_tx1 : String := "()<=+-*;"
/-- what of the JDK's stands outside the memory: two texts, two statics -/
def hm_St (ad : Nat → Nat) (A : Nat → Prop) (s : State) (H : Heap) : Prop :=
  vk_S 2 hm_lens hm_byts (fun i => ad (1000000 + i)) (fun i => ad (2000000 + i)) A s H ∧ va_Z "java/lang/String" "COMPACT_STRINGS" "Z" (.int 1) A s H ∧ (va_Z "jdk/internal/util/Preconditions" "SIOOBE_FORMATTER" "Ljava/util/function/BiFunction;" .null A s H ∨ va_Z "jdk/internal/util/Preconditions" "SIOOBE_FORMATTER" "Ljava/util/function/BiFunction;" (.ref (ad 3000000)) A s H) ∧
  vk_R "PaneSpots$Tape" 71 hm_tx0 (ad 1000000) s ∧ vk_R "PaneSpots$Tape" 61 hm_tx1 (ad 1000001) s ∧ va_Nw (.methodLinkNest RX4 76 yX11_placeOf "PaneSpots") s ∧ va_Nw (.methodLinkNest RX10 68 yX11_stepsBetween "PaneSpots") s ∧ va_AO "PaneSpots$Hold" s
def hm_ok (ad : Nat → Nat) (n : Nat) : Prop := ∀ i j : Nat, i < n → j < n → ad (i + 1) = ad (j + 1) → i = j
/-- which cells a method may write -/
def hm_An (ad : Nat → Nat) (n sz : Nat) : Nat → Prop := fun q => (∃ i : Nat, i < n ∧ q = ad (i + 1)) ∨ sz ≤ q
abbrev hm_X : Type := (Program × Launch × Env × Room × State) × (MethodId × Array Value × List Frame × Method × Code) × ((Nat → ClassId) × (Nat → Nat → Nat) × (FieldType → ClassId) × (Nat → Nat) × (Nat → Prop)) × (Nat × hm_S × Nat × Nat × Nat)
def hm_C (X : hm_X) (own : String) (cc : ByteArray) (nL : Nat) (ret : Option FieldType) (d : Nat) (n : Nat) (S : hm_S) : Prop :=
  match X with
  | ((p, l, e, R, s), (m, args, below, meth, c), (dC, dI, dA, ad, A), (n', S', nL', cells, slots)) =>
    (p.tables.exec = Jvm.exec ∧ c.code = cc ∧ meth.sig.returnType = ret ∧ c.maxLocals = nL ∧ s.vm.findClass own = some m.cls ∧ (∀ w ∈ gW, w.before args s = true) ∧ meth.locks = false) ∧
    ((∀ q, s.heap.size ≤ q → A q) ∧ va_K (dC, dI) vwCl (hm_tys dA) s ∧ hm_ok ad n ∧ (∀ i, i < n → A (ad (i + 1))) ∧ hm_St ad A s s.heap) ∧
    (S' = S ∧ nL' = nL ∧ n' = n ∧ d ≤ R.frames ∧ 64 * d ≤ R.locals ∧ cells ≤ R.cells ∧ slots ≤ R.slots ∧ ∀ a x, S a = some x → 1 ≤ a ∧ a ≤ n)
def hm_U (X : hm_X) (pc : Nat) (ls : List (Nat × Value)) (st : List Value) (M : hm_M) (Q : State → Prop) : Prop :=
  match X with
  | ((p, l, e, R, s), (m, args, below, meth, c), (dC, dI, dA, ad, A), (n, S, nL, cells, slots)) =>
    ∀ (H : Heap) (locs : List Loc) (la : Array Slot), va_P (dC, dI) vwCl (hm_ws dA ad S n M) H → va_S A s.heap H locs → lv_has la nL (ls.map (hm_lv ad)) →
      W p l e R s m args below meth c H locs cells slots Q (F0 m pc la (st.map (hm_tv ad)))
section Rows
variable {X : hm_X} {own : String} {cc : ByteArray} {nL : Nat} {ret : Option FieldType} {d n : Nat} {S : hm_S} {pc : Nat} {ls : List (Nat × Value)} {st : List Value} {M : hm_M} {Q : State → Prop}
theorem jv_iconst (hC : hm_C X own cc nL ret d n S) {k : Int} {v : Int32} (hd : decode cc pc = .ok (.iconst k, 1)) (hv : Int32.ofInt k = v) (kk : hm_U X (pc + 1) ls (.int v :: st) M Q) : hm_U X pc ls st M Q := by
  obtain ⟨⟨p, l, e, R, s⟩, ⟨m, args, below, meth, c⟩, ⟨dC, dI, dA, ad, A⟩, ⟨n', S', nL', cells, slots⟩⟩ := X
  obtain ⟨⟨hx, hb, -⟩, -, -⟩ := hC
  intro H locs la hP hS hl
  exact lv_iconst hx hb hd hv (kk H locs la hP hS hl)
theorem jv_bipush (hC : hm_C X own cc nL ret d n S) {k : Int} {v : Int32} (hd : decode cc pc = .ok (.bipush k, 2)) (hv : (Int8.ofInt k).toInt32 = v) (kk : hm_U X (pc + 2) ls (.int v :: st) M Q) : hm_U X pc ls st M Q := by
  obtain ⟨⟨p, l, e, R, s⟩, ⟨m, args, below, meth, c⟩, ⟨dC, dI, dA, ad, A⟩, ⟨n', S', nL', cells, slots⟩⟩ := X
  obtain ⟨⟨hx, hb, -⟩, -, -⟩ := hC
  intro H locs la hP hS hl
  exact lv_bipush hx hb hd hv (kk H locs la hP hS hl)
theorem jv_sipush (hC : hm_C X own cc nL ret d n S) {k : Int} {v : Int32} (hd : decode cc pc = .ok (.sipush k, 3)) (hv : (Int16.ofInt k).toInt32 = v) (kk : hm_U X (pc + 3) ls (.int v :: st) M Q) : hm_U X pc ls st M Q := by
  obtain ⟨⟨p, l, e, R, s⟩, ⟨m, args, below, meth, c⟩, ⟨dC, dI, dA, ad, A⟩, ⟨n', S', nL', cells, slots⟩⟩ := X
  obtain ⟨⟨hx, hb, -⟩, -, -⟩ := hC
  intro H locs la hP hS hl
  exact lv_sipush hx hb hd hv (kk H locs la hP hS hl)
theorem jv_lconst (hC : hm_C X own cc nL ret d n S) {k : Fin 2} {v : Int64} (hd : decode cc pc = .ok (.lconst k, 1)) (hv : Int64.ofNat (k : Nat) = v) (kk : hm_U X (pc + 1) ls (.long v :: st) M Q) : hm_U X pc ls st M Q := by
  obtain ⟨⟨p, l, e, R, s⟩, ⟨m, args, below, meth, c⟩, ⟨dC, dI, dA, ad, A⟩, ⟨n', S', nL', cells, slots⟩⟩ := X
  obtain ⟨⟨hx, hb, -⟩, -, -⟩ := hC
  intro H locs la hP hS hl
  exact lv_lconst hx hb hd hv (kk H locs la hP hS hl)
theorem jv_ldc (hC : hm_C X own cc nL ret d n S) {k : Nat} {v : Int32} (hw : Cond.constant own k v ∈ gW) (hd : decode cc pc = .ok (.ldc k, 2)) (kk : hm_U X (pc + 2) ls (.int v :: st) M Q) : hm_U X pc ls st M Q := by
  obtain ⟨⟨p, l, e, R, s⟩, ⟨m, args, below, meth, c⟩, ⟨dC, dI, dA, ad, A⟩, ⟨n', S', nL', cells, slots⟩⟩ := X
  obtain ⟨⟨hx, hb, -, -, hown, hts, -⟩, -, -⟩ := hC
  intro H locs la hP hS hl
  exact lv_ldc hx hb hown (hts _ hw) hd (kk H locs la hP hS hl)
theorem jv_ldc2 (hC : hm_C X own cc nL ret d n S) {k : Nat} {v : Int64} (hw : Cond.constantLong own k v ∈ gW) (hd : decode cc pc = .ok (.ldc2_w k, 3)) (kk : hm_U X (pc + 3) ls (.long v :: st) M Q) : hm_U X pc ls st M Q := by
  obtain ⟨⟨p, l, e, R, s⟩, ⟨m, args, below, meth, c⟩, ⟨dC, dI, dA, ad, A⟩, ⟨n', S', nL', cells, slots⟩⟩ := X
  obtain ⟨⟨hx, hb, -, -, hown, hts, -⟩, -, -⟩ := hC
  intro H locs la hP hS hl
  exact lv_ldc2 hx hb hown (hts _ hw) hd (kk H locs la hP hS hl)
theorem hm_lat {ad : Nat → Nat} {la : Array Slot} {q i : Nat} {v : Value} (hl : lv_has la nL (ls.map (hm_lv ad))) (h : ls[q]? = some (i, v)) : la[i]? = some (.val (hm_tv ad v)) := lv_at hl q (by rw [List.getElem?_map, h]; rfl)
theorem jv_iload_n (hC : hm_C X own cc nL ret d n S) (q : Nat) {k : Fin 4} {x : Int32} (hd : decode cc pc = .ok (.iload_n k, 1)) (h : ls[q]? = some ((k : Nat), .int x)) (kk : hm_U X (pc + 1) ls (.int x :: st) M Q) : hm_U X pc ls st M Q := by
  obtain ⟨⟨p, l, e, R, s⟩, ⟨m, args, below, meth, c⟩, ⟨dC, dI, dA, ad, A⟩, ⟨n', S', nL', cells, slots⟩⟩ := X
  obtain ⟨⟨hx, hb, -⟩, -, -⟩ := hC
  intro H locs la hP hS hl
  exact lv_iload_n hx hb hd rfl (hm_lat hl h) (kk H locs la hP hS hl)
theorem jv_iload (hC : hm_C X own cc nL ret d n S) (q : Nat) {k : Nat} {x : Int32} (hd : decode cc pc = .ok (.iload k, 2)) (h : ls[q]? = some (k, .int x)) (kk : hm_U X (pc + 2) ls (.int x :: st) M Q) : hm_U X pc ls st M Q := by
  obtain ⟨⟨p, l, e, R, s⟩, ⟨m, args, below, meth, c⟩, ⟨dC, dI, dA, ad, A⟩, ⟨n', S', nL', cells, slots⟩⟩ := X
  obtain ⟨⟨hx, hb, -⟩, -, -⟩ := hC
  intro H locs la hP hS hl
  exact lv_iload hx hb hd (hm_lat hl h) (kk H locs la hP hS hl)
theorem jv_lload_n (hC : hm_C X own cc nL ret d n S) (q : Nat) {k : Fin 4} {x : Int64} (hd : decode cc pc = .ok (.lload_n k, 1)) (h : ls[q]? = some ((k : Nat), .long x)) (kk : hm_U X (pc + 1) ls (.long x :: st) M Q) : hm_U X pc ls st M Q := by
  obtain ⟨⟨p, l, e, R, s⟩, ⟨m, args, below, meth, c⟩, ⟨dC, dI, dA, ad, A⟩, ⟨n', S', nL', cells, slots⟩⟩ := X
  obtain ⟨⟨hx, hb, -⟩, -, -⟩ := hC
  intro H locs la hP hS hl
  exact lv_lload_n hx hb hd rfl (hm_lat hl h) (kk H locs la hP hS hl)
theorem jv_lload (hC : hm_C X own cc nL ret d n S) (q : Nat) {k : Nat} {x : Int64} (hd : decode cc pc = .ok (.lload k, 2)) (h : ls[q]? = some (k, .long x)) (kk : hm_U X (pc + 2) ls (.long x :: st) M Q) : hm_U X pc ls st M Q := by
  obtain ⟨⟨p, l, e, R, s⟩, ⟨m, args, below, meth, c⟩, ⟨dC, dI, dA, ad, A⟩, ⟨n', S', nL', cells, slots⟩⟩ := X
  obtain ⟨⟨hx, hb, -⟩, -, -⟩ := hC
  intro H locs la hP hS hl
  exact lv_lload hx hb hd (hm_lat hl h) (kk H locs la hP hS hl)
theorem jv_aload_n (hC : hm_C X own cc nL ret d n S) (q : Nat) {k : Fin 4} {x : Nat} (hd : decode cc pc = .ok (.aload_n k, 1)) (h : ls[q]? = some ((k : Nat), .ref x)) (kk : hm_U X (pc + 1) ls (.ref x :: st) M Q) : hm_U X pc ls st M Q := by
  obtain ⟨⟨p, l, e, R, s⟩, ⟨m, args, below, meth, c⟩, ⟨dC, dI, dA, ad, A⟩, ⟨n', S', nL', cells, slots⟩⟩ := X
  obtain ⟨⟨hx, hb, -⟩, -, -⟩ := hC
  intro H locs la hP hS hl
  exact lv_aload_n hx hb hd rfl (hm_lat hl h) (kk H locs la hP hS hl)
theorem jv_aload (hC : hm_C X own cc nL ret d n S) (q : Nat) {k : Nat} {x : Nat} (hd : decode cc pc = .ok (.aload k, 2)) (h : ls[q]? = some (k, .ref x)) (kk : hm_U X (pc + 2) ls (.ref x :: st) M Q) : hm_U X pc ls st M Q := by
  obtain ⟨⟨p, l, e, R, s⟩, ⟨m, args, below, meth, c⟩, ⟨dC, dI, dA, ad, A⟩, ⟨n', S', nL', cells, slots⟩⟩ := X
  obtain ⟨⟨hx, hb, -⟩, -, -⟩ := hC
  intro H locs la hP hS hl
  exact lv_aload hx hb hd (hm_lat hl h) (kk H locs la hP hS hl)
/-- the locals behind a store of one slot, of two -/
def hm_s1 (ls : List (Nat × Value)) (i : Nat) (v : Value) : List (Nat × Value) := (i, v) :: ls.filter (fun q => !(q.1 == i) && !(q.1 + 1 == i && q.2.category == 2))
def hm_s2 (ls : List (Nat × Value)) (i : Nat) (v : Value) : List (Nat × Value) := (i, v) :: ls.filter (fun q => !(q.1 == i) && (!(q.1 == i + 1) && !(q.1 + 1 == i && q.2.category == 2)))
theorem hm_s1_map {ad : Nat → Nat} {i : Nat} {v : Value} : (hm_s1 ls i v).map (hm_lv ad) = (i, hm_tv ad v) :: (ls.map (hm_lv ad)).filter (fun q => !(q.1 == i) && !(q.1 + 1 == i && q.2.category == 2)) := by
  simp only [hm_s1, List.map_cons, hm_lv, List.filter_map]
  congr 2
  apply List.filter_congr
  intro q _
  simp [Function.comp, hm_lv, hm_tv_cat]
theorem hm_s2_map {ad : Nat → Nat} {i : Nat} {v : Value} : (hm_s2 ls i v).map (hm_lv ad) = (i, hm_tv ad v) :: (ls.map (hm_lv ad)).filter (fun q => !(q.1 == i) && (!(q.1 == i + 1) && !(q.1 + 1 == i && q.2.category == 2))) := by
  simp only [hm_s2, List.map_cons, hm_lv, List.filter_map]
  congr 2
  apply List.filter_congr
  intro q _
  simp [Function.comp, hm_lv, hm_tv_cat]
theorem jv_istore_n (hC : hm_C X own cc nL ret d n S) {k : Fin 4} {x : Int32} (ls' : List (Nat × Value)) (hd : decode cc pc = .ok (.istore_n k, 1)) (hn : (k : Nat) < nL) (h : hm_s1 ls (k : Nat) (.int x) = ls') (kk : hm_U X (pc + 1) ls' st M Q) : hm_U X pc ls (.int x :: st) M Q := by
  obtain ⟨⟨p, l, e, R, s⟩, ⟨m, args, below, meth, c⟩, ⟨dC, dI, dA, ad, A⟩, ⟨n', S', nL', cells, slots⟩⟩ := X
  obtain ⟨⟨hx, hb, -⟩, -, ⟨-, rfl, -⟩⟩ := hC
  intro H locs la hP hS hl
  exact lv_istore_n hx hb hd rfl hl hn (hm_s1_map (ad := ad) (i := (k : Nat)) (v := .int x)).symm (fun la' hl' => kk H locs la' hP hS (by rw [← h]; exact hl'))
theorem jv_istore (hC : hm_C X own cc nL ret d n S) {k : Nat} {x : Int32} (ls' : List (Nat × Value)) (hd : decode cc pc = .ok (.istore k, 2)) (hn : k < nL) (h : hm_s1 ls k (.int x) = ls') (kk : hm_U X (pc + 2) ls' st M Q) : hm_U X pc ls (.int x :: st) M Q := by
  obtain ⟨⟨p, l, e, R, s⟩, ⟨m, args, below, meth, c⟩, ⟨dC, dI, dA, ad, A⟩, ⟨n', S', nL', cells, slots⟩⟩ := X
  obtain ⟨⟨hx, hb, -⟩, -, ⟨-, rfl, -⟩⟩ := hC
  intro H locs la hP hS hl
  exact lv_istore hx hb hd hl hn (hm_s1_map (ad := ad) (i := k) (v := .int x)).symm (fun la' hl' => kk H locs la' hP hS (by rw [← h]; exact hl'))
theorem jv_astore_n (hC : hm_C X own cc nL ret d n S) {k : Fin 4} {x : Nat} (ls' : List (Nat × Value)) (hd : decode cc pc = .ok (.astore_n k, 1)) (hn : (k : Nat) < nL) (h : hm_s1 ls (k : Nat) (.ref x) = ls') (kk : hm_U X (pc + 1) ls' st M Q) : hm_U X pc ls (.ref x :: st) M Q := by
  obtain ⟨⟨p, l, e, R, s⟩, ⟨m, args, below, meth, c⟩, ⟨dC, dI, dA, ad, A⟩, ⟨n', S', nL', cells, slots⟩⟩ := X
  obtain ⟨⟨hx, hb, -⟩, -, ⟨-, rfl, -⟩⟩ := hC
  intro H locs la hP hS hl
  exact lv_astore_n hx hb hd rfl hl hn (hm_s1_map (ad := ad) (i := (k : Nat)) (v := .ref x)).symm (fun la' hl' => kk H locs la' hP hS (by rw [← h]; exact hl'))
theorem jv_astore (hC : hm_C X own cc nL ret d n S) {k : Nat} {x : Nat} (ls' : List (Nat × Value)) (hd : decode cc pc = .ok (.astore k, 2)) (hn : k < nL) (h : hm_s1 ls k (.ref x) = ls') (kk : hm_U X (pc + 2) ls' st M Q) : hm_U X pc ls (.ref x :: st) M Q := by
  obtain ⟨⟨p, l, e, R, s⟩, ⟨m, args, below, meth, c⟩, ⟨dC, dI, dA, ad, A⟩, ⟨n', S', nL', cells, slots⟩⟩ := X
  obtain ⟨⟨hx, hb, -⟩, -, ⟨-, rfl, -⟩⟩ := hC
  intro H locs la hP hS hl
  exact lv_astore hx hb hd hl hn (hm_s1_map (ad := ad) (i := k) (v := .ref x)).symm (fun la' hl' => kk H locs la' hP hS (by rw [← h]; exact hl'))
theorem jv_lstore_n (hC : hm_C X own cc nL ret d n S) {k : Fin 4} {x : Int64} (ls' : List (Nat × Value)) (hd : decode cc pc = .ok (.lstore_n k, 1)) (hn : (k : Nat) + 1 < nL) (h : hm_s2 ls (k : Nat) (.long x) = ls') (kk : hm_U X (pc + 1) ls' st M Q) : hm_U X pc ls (.long x :: st) M Q := by
  obtain ⟨⟨p, l, e, R, s⟩, ⟨m, args, below, meth, c⟩, ⟨dC, dI, dA, ad, A⟩, ⟨n', S', nL', cells, slots⟩⟩ := X
  obtain ⟨⟨hx, hb, -⟩, -, ⟨-, rfl, -⟩⟩ := hC
  intro H locs la hP hS hl
  exact lv_lstore_n hx hb hd rfl hl hn (hm_s2_map (ad := ad) (i := (k : Nat)) (v := .long x)).symm (fun la' hl' => kk H locs la' hP hS (by rw [← h]; exact hl'))
theorem jv_lstore (hC : hm_C X own cc nL ret d n S) {k : Nat} {x : Int64} (ls' : List (Nat × Value)) (hd : decode cc pc = .ok (.lstore k, 2)) (hn : k + 1 < nL) (h : hm_s2 ls k (.long x) = ls') (kk : hm_U X (pc + 2) ls' st M Q) : hm_U X pc ls (.long x :: st) M Q := by
  obtain ⟨⟨p, l, e, R, s⟩, ⟨m, args, below, meth, c⟩, ⟨dC, dI, dA, ad, A⟩, ⟨n', S', nL', cells, slots⟩⟩ := X
  obtain ⟨⟨hx, hb, -⟩, -, ⟨-, rfl, -⟩⟩ := hC
  intro H locs la hP hS hl
  exact lv_lstore hx hb hd hl hn (hm_s2_map (ad := ad) (i := k) (v := .long x)).symm (fun la' hl' => kk H locs la' hP hS (by rw [← h]; exact hl'))
theorem jv_iinc (hC : hm_C X own cc nL ret d n S) (q : Nat) {i : Nat} {k : Int} {x v : Int32} (ls' : List (Nat × Value)) (hd : decode cc pc = .ok (.iinc i k, 3)) (h0 : ls[q]? = some (i, .int x)) (hv : Int32.ofInt k = v) (hn : i < nL) (h : hm_s1 ls i (.int (x + v)) = ls') (kk : hm_U X (pc + 3) ls' st M Q) : hm_U X pc ls st M Q := by
  obtain ⟨⟨p, l, e, R, s⟩, ⟨m, args, below, meth, c⟩, ⟨dC, dI, dA, ad, A⟩, ⟨n', S', nL', cells, slots⟩⟩ := X
  obtain ⟨⟨hx, hb, -⟩, -, ⟨-, rfl, -⟩⟩ := hC
  intro H locs la hP hS hl
  exact lv_iinc hx hb hd hl (k := q) (x := x) (by rw [List.getElem?_map, h0]; rfl) (by rw [hv]) hn (hm_s1_map (ad := ad) (i := i) (v := .int (x + v))).symm (fun la' hl' => kk H locs la' hP hS (by rw [← h]; exact hl'))
/-- fewer locals, in another order -/
theorem jv_sub (ks : List Nat) {ls' : List (Nat × Value)} (h : lv_pick ls ks = ls') (kk : hm_U X pc ls' st M Q) : hm_U X pc ls st M Q := by
  obtain ⟨⟨p, l, e, R, s⟩, ⟨m, args, below, meth, c⟩, ⟨dC, dI, dA, ad, A⟩, ⟨n', S', nL', cells, slots⟩⟩ := X
  intro H locs la hP hS hl
  refine kk H locs la hP hS (lv_sub hl ks ?_)
  rw [← h]
  simp only [lv_pick, List.getElem?_map, List.map_filterMap]
end Rows
