/-! ROWS: numbers, branches -/
section Rows2
variable {X : hm_X} {own : String} {cc : ByteArray} {nL : Nat} {ret : Option FieldType} {d n : Nat} {S : hm_S} {pc : Nat} {ls : List (Nat × Value)} {st : List Value} {M : hm_M} {Q : State → Prop}
theorem jv_iadd (hC : hm_C X own cc nL ret d n S) {x : Int32} {y : Int32} (hd : decode cc pc = .ok (.iadd, 1)) (kk : hm_U X (pc + 1) ls (.int (x + y) :: st) M Q) : hm_U X pc ls (.int y :: .int x :: st) M Q := by
  obtain ⟨⟨p, l, e, R, s⟩, ⟨m, args, below, meth, c⟩, ⟨dC, dI, dA, ad, A⟩, ⟨n', S', nL', cells, slots⟩⟩ := X
  obtain ⟨⟨hx, hb, -⟩, -, -⟩ := hC
  intro H locs la hP hS hl
  exact lv_iadd hx hb hd (kk H locs la hP hS hl)
theorem jv_isub (hC : hm_C X own cc nL ret d n S) {x : Int32} {y : Int32} (hd : decode cc pc = .ok (.isub, 1)) (kk : hm_U X (pc + 1) ls (.int (x - y) :: st) M Q) : hm_U X pc ls (.int y :: .int x :: st) M Q := by
  obtain ⟨⟨p, l, e, R, s⟩, ⟨m, args, below, meth, c⟩, ⟨dC, dI, dA, ad, A⟩, ⟨n', S', nL', cells, slots⟩⟩ := X
  obtain ⟨⟨hx, hb, -⟩, -, -⟩ := hC
  intro H locs la hP hS hl
  exact lv_isub hx hb hd (kk H locs la hP hS hl)
theorem jv_imul (hC : hm_C X own cc nL ret d n S) {x : Int32} {y : Int32} (hd : decode cc pc = .ok (.imul, 1)) (kk : hm_U X (pc + 1) ls (.int (x * y) :: st) M Q) : hm_U X pc ls (.int y :: .int x :: st) M Q := by
  obtain ⟨⟨p, l, e, R, s⟩, ⟨m, args, below, meth, c⟩, ⟨dC, dI, dA, ad, A⟩, ⟨n', S', nL', cells, slots⟩⟩ := X
  obtain ⟨⟨hx, hb, -⟩, -, -⟩ := hC
  intro H locs la hP hS hl
  exact lv_imul hx hb hd (kk H locs la hP hS hl)
theorem jv_iand (hC : hm_C X own cc nL ret d n S) {x : Int32} {y : Int32} (hd : decode cc pc = .ok (.iand, 1)) (kk : hm_U X (pc + 1) ls (.int (x &&& y) :: st) M Q) : hm_U X pc ls (.int y :: .int x :: st) M Q := by
  obtain ⟨⟨p, l, e, R, s⟩, ⟨m, args, below, meth, c⟩, ⟨dC, dI, dA, ad, A⟩, ⟨n', S', nL', cells, slots⟩⟩ := X
  obtain ⟨⟨hx, hb, -⟩, -, -⟩ := hC
  intro H locs la hP hS hl
  exact lv_iand hx hb hd (kk H locs la hP hS hl)
theorem jv_ior (hC : hm_C X own cc nL ret d n S) {x : Int32} {y : Int32} (hd : decode cc pc = .ok (.ior, 1)) (kk : hm_U X (pc + 1) ls (.int (x ||| y) :: st) M Q) : hm_U X pc ls (.int y :: .int x :: st) M Q := by
  obtain ⟨⟨p, l, e, R, s⟩, ⟨m, args, below, meth, c⟩, ⟨dC, dI, dA, ad, A⟩, ⟨n', S', nL', cells, slots⟩⟩ := X
  obtain ⟨⟨hx, hb, -⟩, -, -⟩ := hC
  intro H locs la hP hS hl
  exact lv_ior hx hb hd (kk H locs la hP hS hl)
theorem jv_ixor (hC : hm_C X own cc nL ret d n S) {x : Int32} {y : Int32} (hd : decode cc pc = .ok (.ixor, 1)) (kk : hm_U X (pc + 1) ls (.int (x ^^^ y) :: st) M Q) : hm_U X pc ls (.int y :: .int x :: st) M Q := by
  obtain ⟨⟨p, l, e, R, s⟩, ⟨m, args, below, meth, c⟩, ⟨dC, dI, dA, ad, A⟩, ⟨n', S', nL', cells, slots⟩⟩ := X
  obtain ⟨⟨hx, hb, -⟩, -, -⟩ := hC
  intro H locs la hP hS hl
  exact lv_ixor hx hb hd (kk H locs la hP hS hl)
theorem jv_ishl (hC : hm_C X own cc nL ret d n S) {x : Int32} {y : Int32} (hd : decode cc pc = .ok (.ishl, 1)) (kk : hm_U X (pc + 1) ls (.int (x <<< (y &&& 31)) :: st) M Q) : hm_U X pc ls (.int y :: .int x :: st) M Q := by
  obtain ⟨⟨p, l, e, R, s⟩, ⟨m, args, below, meth, c⟩, ⟨dC, dI, dA, ad, A⟩, ⟨n', S', nL', cells, slots⟩⟩ := X
  obtain ⟨⟨hx, hb, -⟩, -, -⟩ := hC
  intro H locs la hP hS hl
  exact lv_ishl hx hb hd (kk H locs la hP hS hl)
theorem jv_ishr (hC : hm_C X own cc nL ret d n S) {x : Int32} {y : Int32} (hd : decode cc pc = .ok (.ishr, 1)) (kk : hm_U X (pc + 1) ls (.int (x >>> (y &&& 31)) :: st) M Q) : hm_U X pc ls (.int y :: .int x :: st) M Q := by
  obtain ⟨⟨p, l, e, R, s⟩, ⟨m, args, below, meth, c⟩, ⟨dC, dI, dA, ad, A⟩, ⟨n', S', nL', cells, slots⟩⟩ := X
  obtain ⟨⟨hx, hb, -⟩, -, -⟩ := hC
  intro H locs la hP hS hl
  exact lv_ishr hx hb hd (kk H locs la hP hS hl)
theorem jv_iushr (hC : hm_C X own cc nL ret d n S) {x : Int32} {y : Int32} (hd : decode cc pc = .ok (.iushr, 1)) (kk : hm_U X (pc + 1) ls (.int ((x.toUInt32 >>> (y.toUInt32 &&& Int32.toUInt32 31)).toInt32) :: st) M Q) : hm_U X pc ls (.int y :: .int x :: st) M Q := by
  obtain ⟨⟨p, l, e, R, s⟩, ⟨m, args, below, meth, c⟩, ⟨dC, dI, dA, ad, A⟩, ⟨n', S', nL', cells, slots⟩⟩ := X
  obtain ⟨⟨hx, hb, -⟩, -, -⟩ := hC
  intro H locs la hP hS hl
  exact lv_iushr hx hb hd rfl (kk H locs la hP hS hl)
theorem jv_idiv (hC : hm_C X own cc nL ret d n S) {x : Int32} {y : Int32} (hd : decode cc pc = .ok (.idiv, 1)) (hne : ¬ y = 0) (kk : hm_U X (pc + 1) ls (.int (x / y) :: st) M Q) : hm_U X pc ls (.int y :: .int x :: st) M Q := by
  obtain ⟨⟨p, l, e, R, s⟩, ⟨m, args, below, meth, c⟩, ⟨dC, dI, dA, ad, A⟩, ⟨n', S', nL', cells, slots⟩⟩ := X
  obtain ⟨⟨hx, hb, -⟩, -, -⟩ := hC
  intro H locs la hP hS hl
  exact lv_idiv hx hb hd hne (kk H locs la hP hS hl)
theorem jv_irem (hC : hm_C X own cc nL ret d n S) {x : Int32} {y : Int32} (hd : decode cc pc = .ok (.irem, 1)) (hne : ¬ y = 0) (kk : hm_U X (pc + 1) ls (.int (x - x / y * y) :: st) M Q) : hm_U X pc ls (.int y :: .int x :: st) M Q := by
  obtain ⟨⟨p, l, e, R, s⟩, ⟨m, args, below, meth, c⟩, ⟨dC, dI, dA, ad, A⟩, ⟨n', S', nL', cells, slots⟩⟩ := X
  obtain ⟨⟨hx, hb, -⟩, -, -⟩ := hC
  intro H locs la hP hS hl
  exact lv_irem hx hb hd hne (kk H locs la hP hS hl)
theorem jv_ladd (hC : hm_C X own cc nL ret d n S) {x : Int64} {y : Int64} (hd : decode cc pc = .ok (.ladd, 1)) (kk : hm_U X (pc + 1) ls (.long (x + y) :: st) M Q) : hm_U X pc ls (.long y :: .long x :: st) M Q := by
  obtain ⟨⟨p, l, e, R, s⟩, ⟨m, args, below, meth, c⟩, ⟨dC, dI, dA, ad, A⟩, ⟨n', S', nL', cells, slots⟩⟩ := X
  obtain ⟨⟨hx, hb, -⟩, -, -⟩ := hC
  intro H locs la hP hS hl
  exact lv_ladd hx hb hd (kk H locs la hP hS hl)
theorem jv_lsub (hC : hm_C X own cc nL ret d n S) {x : Int64} {y : Int64} (hd : decode cc pc = .ok (.lsub, 1)) (kk : hm_U X (pc + 1) ls (.long (x - y) :: st) M Q) : hm_U X pc ls (.long y :: .long x :: st) M Q := by
  obtain ⟨⟨p, l, e, R, s⟩, ⟨m, args, below, meth, c⟩, ⟨dC, dI, dA, ad, A⟩, ⟨n', S', nL', cells, slots⟩⟩ := X
  obtain ⟨⟨hx, hb, -⟩, -, -⟩ := hC
  intro H locs la hP hS hl
  exact lv_lsub hx hb hd (kk H locs la hP hS hl)
theorem jv_lmul (hC : hm_C X own cc nL ret d n S) {x : Int64} {y : Int64} (hd : decode cc pc = .ok (.lmul, 1)) (kk : hm_U X (pc + 1) ls (.long (x * y) :: st) M Q) : hm_U X pc ls (.long y :: .long x :: st) M Q := by
  obtain ⟨⟨p, l, e, R, s⟩, ⟨m, args, below, meth, c⟩, ⟨dC, dI, dA, ad, A⟩, ⟨n', S', nL', cells, slots⟩⟩ := X
  obtain ⟨⟨hx, hb, -⟩, -, -⟩ := hC
  intro H locs la hP hS hl
  exact lv_lmul hx hb hd (kk H locs la hP hS hl)
theorem jv_land (hC : hm_C X own cc nL ret d n S) {x : Int64} {y : Int64} (hd : decode cc pc = .ok (.land, 1)) (kk : hm_U X (pc + 1) ls (.long (x &&& y) :: st) M Q) : hm_U X pc ls (.long y :: .long x :: st) M Q := by
  obtain ⟨⟨p, l, e, R, s⟩, ⟨m, args, below, meth, c⟩, ⟨dC, dI, dA, ad, A⟩, ⟨n', S', nL', cells, slots⟩⟩ := X
  obtain ⟨⟨hx, hb, -⟩, -, -⟩ := hC
  intro H locs la hP hS hl
  exact lv_land hx hb hd (kk H locs la hP hS hl)
theorem jv_lor (hC : hm_C X own cc nL ret d n S) {x : Int64} {y : Int64} (hd : decode cc pc = .ok (.lor, 1)) (kk : hm_U X (pc + 1) ls (.long (x ||| y) :: st) M Q) : hm_U X pc ls (.long y :: .long x :: st) M Q := by
  obtain ⟨⟨p, l, e, R, s⟩, ⟨m, args, below, meth, c⟩, ⟨dC, dI, dA, ad, A⟩, ⟨n', S', nL', cells, slots⟩⟩ := X
  obtain ⟨⟨hx, hb, -⟩, -, -⟩ := hC
  intro H locs la hP hS hl
  exact lv_lor hx hb hd (kk H locs la hP hS hl)
theorem jv_ldiv (hC : hm_C X own cc nL ret d n S) {x : Int64} {y : Int64} (hd : decode cc pc = .ok (.ldiv, 1)) (hne : ¬ y = 0) (kk : hm_U X (pc + 1) ls (.long (x / y) :: st) M Q) : hm_U X pc ls (.long y :: .long x :: st) M Q := by
  obtain ⟨⟨p, l, e, R, s⟩, ⟨m, args, below, meth, c⟩, ⟨dC, dI, dA, ad, A⟩, ⟨n', S', nL', cells, slots⟩⟩ := X
  obtain ⟨⟨hx, hb, -⟩, -, -⟩ := hC
  intro H locs la hP hS hl
  exact lv_ldiv hx hb hd hne (kk H locs la hP hS hl)
theorem jv_lrem (hC : hm_C X own cc nL ret d n S) {x : Int64} {y : Int64} (hd : decode cc pc = .ok (.lrem, 1)) (hne : ¬ y = 0) (kk : hm_U X (pc + 1) ls (.long (x - x / y * y) :: st) M Q) : hm_U X pc ls (.long y :: .long x :: st) M Q := by
  obtain ⟨⟨p, l, e, R, s⟩, ⟨m, args, below, meth, c⟩, ⟨dC, dI, dA, ad, A⟩, ⟨n', S', nL', cells, slots⟩⟩ := X
  obtain ⟨⟨hx, hb, -⟩, -, -⟩ := hC
  intro H locs la hP hS hl
  exact lv_lrem hx hb hd hne (kk H locs la hP hS hl)
theorem jv_lshl (hC : hm_C X own cc nL ret d n S) {x : Int64} {y : Int32} (hd : decode cc pc = .ok (.lshl, 1)) (kk : hm_U X (pc + 1) ls (.long (x <<< (y.toInt64 &&& 63)) :: st) M Q) : hm_U X pc ls (.int y :: .long x :: st) M Q := by
  obtain ⟨⟨p, l, e, R, s⟩, ⟨m, args, below, meth, c⟩, ⟨dC, dI, dA, ad, A⟩, ⟨n', S', nL', cells, slots⟩⟩ := X
  obtain ⟨⟨hx, hb, -⟩, -, -⟩ := hC
  intro H locs la hP hS hl
  exact lv_lshl hx hb hd rfl (kk H locs la hP hS hl)
theorem jv_lshr (hC : hm_C X own cc nL ret d n S) {x : Int64} {y : Int32} (hd : decode cc pc = .ok (.lshr, 1)) (kk : hm_U X (pc + 1) ls (.long (x >>> (y.toInt64 &&& 63)) :: st) M Q) : hm_U X pc ls (.int y :: .long x :: st) M Q := by
  obtain ⟨⟨p, l, e, R, s⟩, ⟨m, args, below, meth, c⟩, ⟨dC, dI, dA, ad, A⟩, ⟨n', S', nL', cells, slots⟩⟩ := X
  obtain ⟨⟨hx, hb, -⟩, -, -⟩ := hC
  intro H locs la hP hS hl
  exact lv_lshr hx hb hd rfl (kk H locs la hP hS hl)
theorem jv_lushr (hC : hm_C X own cc nL ret d n S) {x : Int64} {y : Int32} (hd : decode cc pc = .ok (.lushr, 1)) (kk : hm_U X (pc + 1) ls (.long ((x.toUInt64 >>> (y.toInt64.toUInt64 &&& Int64.toUInt64 63)).toInt64) :: st) M Q) : hm_U X pc ls (.int y :: .long x :: st) M Q := by
  obtain ⟨⟨p, l, e, R, s⟩, ⟨m, args, below, meth, c⟩, ⟨dC, dI, dA, ad, A⟩, ⟨n', S', nL', cells, slots⟩⟩ := X
  obtain ⟨⟨hx, hb, -⟩, -, -⟩ := hC
  intro H locs la hP hS hl
  exact lv_lushr hx hb hd rfl (kk H locs la hP hS hl)
theorem jv_lcmp (hC : hm_C X own cc nL ret d n S) {x y : Int64} (hd : decode cc pc = .ok (.lcmp, 1)) (kk : hm_U X (pc + 1) ls (.int (lg_cmp x y) :: st) M Q) : hm_U X pc ls (.long y :: .long x :: st) M Q := by
  obtain ⟨⟨p, l, e, R, s⟩, ⟨m, args, below, meth, c⟩, ⟨dC, dI, dA, ad, A⟩, ⟨n', S', nL', cells, slots⟩⟩ := X
  obtain ⟨⟨hx, hb, -⟩, -, -⟩ := hC
  intro H locs la hP hS hl
  exact W.lcmp hx hb hd (kk H locs la hP hS hl)
theorem jv_ineg (hC : hm_C X own cc nL ret d n S) {x : Int32} (hd : decode cc pc = .ok (.ineg, 1)) (kk : hm_U X (pc + 1) ls (.int (-x) :: st) M Q) : hm_U X pc ls (.int x :: st) M Q := by
  obtain ⟨⟨p, l, e, R, s⟩, ⟨m, args, below, meth, c⟩, ⟨dC, dI, dA, ad, A⟩, ⟨n', S', nL', cells, slots⟩⟩ := X
  obtain ⟨⟨hx, hb, -⟩, -, -⟩ := hC
  intro H locs la hP hS hl
  exact lv_ineg hx hb hd (kk H locs la hP hS hl)
theorem jv_i2l (hC : hm_C X own cc nL ret d n S) {x : Int32} (hd : decode cc pc = .ok (.i2l, 1)) (kk : hm_U X (pc + 1) ls (.long (x.toInt64) :: st) M Q) : hm_U X pc ls (.int x :: st) M Q := by
  obtain ⟨⟨p, l, e, R, s⟩, ⟨m, args, below, meth, c⟩, ⟨dC, dI, dA, ad, A⟩, ⟨n', S', nL', cells, slots⟩⟩ := X
  obtain ⟨⟨hx, hb, -⟩, -, -⟩ := hC
  intro H locs la hP hS hl
  exact lv_i2l hx hb hd rfl (kk H locs la hP hS hl)
theorem jv_l2i (hC : hm_C X own cc nL ret d n S) {x : Int64} (hd : decode cc pc = .ok (.l2i, 1)) (kk : hm_U X (pc + 1) ls (.int (x.toInt32) :: st) M Q) : hm_U X pc ls (.long x :: st) M Q := by
  obtain ⟨⟨p, l, e, R, s⟩, ⟨m, args, below, meth, c⟩, ⟨dC, dI, dA, ad, A⟩, ⟨n', S', nL', cells, slots⟩⟩ := X
  obtain ⟨⟨hx, hb, -⟩, -, -⟩ := hC
  intro H locs la hP hS hl
  exact lv_l2i hx hb hd rfl (kk H locs la hP hS hl)
theorem jv_i2b (hC : hm_C X own cc nL ret d n S) {x : Int32} (hd : decode cc pc = .ok (.i2b, 1)) (kk : hm_U X (pc + 1) ls (.int (x.toInt8.toInt32) :: st) M Q) : hm_U X pc ls (.int x :: st) M Q := by
  obtain ⟨⟨p, l, e, R, s⟩, ⟨m, args, below, meth, c⟩, ⟨dC, dI, dA, ad, A⟩, ⟨n', S', nL', cells, slots⟩⟩ := X
  obtain ⟨⟨hx, hb, -⟩, -, -⟩ := hC
  intro H locs la hP hS hl
  exact lv_i2b hx hb hd rfl (kk H locs la hP hS hl)
theorem jv_i2c (hC : hm_C X own cc nL ret d n S) {x : Int32} (hd : decode cc pc = .ok (.i2c, 1)) (kk : hm_U X (pc + 1) ls (.int ((x.toUInt32 % 65536).toInt32) :: st) M Q) : hm_U X pc ls (.int x :: st) M Q := by
  obtain ⟨⟨p, l, e, R, s⟩, ⟨m, args, below, meth, c⟩, ⟨dC, dI, dA, ad, A⟩, ⟨n', S', nL', cells, slots⟩⟩ := X
  obtain ⟨⟨hx, hb, -⟩, -, -⟩ := hC
  intro H locs la hP hS hl
  exact lv_i2c hx hb hd rfl (kk H locs la hP hS hl)
theorem jv_dup (hC : hm_C X own cc nL ret d n S) {v : Value} (hd : decode cc pc = .ok (.dup, 1)) (hv : v.category = 1) (kk : hm_U X (pc + 1) ls (v :: v :: st) M Q) : hm_U X pc ls (v :: st) M Q := by
  obtain ⟨⟨p, l, e, R, s⟩, ⟨m, args, below, meth, c⟩, ⟨dC, dI, dA, ad, A⟩, ⟨n', S', nL', cells, slots⟩⟩ := X
  obtain ⟨⟨hx, hb, -⟩, -, -⟩ := hC
  intro H locs la hP hS hl
  exact lv_dup hx hb hd ((hm_tv_cat ad v).trans hv) (kk H locs la hP hS hl)
theorem jv_dup2 (hC : hm_C X own cc nL ret d n S) {v w : Value} (hd : decode cc pc = .ok (.dup2, 1)) (hv : v.category = 1) (hw : w.category = 1) (kk : hm_U X (pc + 1) ls (v :: w :: v :: w :: st) M Q) : hm_U X pc ls (v :: w :: st) M Q := by
  obtain ⟨⟨p, l, e, R, s⟩, ⟨m, args, below, meth, c⟩, ⟨dC, dI, dA, ad, A⟩, ⟨n', S', nL', cells, slots⟩⟩ := X
  obtain ⟨⟨hx, hb, -⟩, -, -⟩ := hC
  intro H locs la hP hS hl
  exact lv_dup2_11 hx hb hd ((hm_tv_cat ad v).trans hv) ((hm_tv_cat ad w).trans hw) (kk H locs la hP hS hl)
theorem jv_pop (hC : hm_C X own cc nL ret d n S) {v : Value} (hd : decode cc pc = .ok (.pop, 1)) (hv : v.category = 1) (kk : hm_U X (pc + 1) ls st M Q) : hm_U X pc ls (v :: st) M Q := by
  obtain ⟨⟨p, l, e, R, s⟩, ⟨m, args, below, meth, c⟩, ⟨dC, dI, dA, ad, A⟩, ⟨n', S', nL', cells, slots⟩⟩ := X
  obtain ⟨⟨hx, hb, -⟩, -, -⟩ := hC
  intro H locs la hP hS hl
  exact lv_pop hx hb hd ((hm_tv_cat ad v).trans hv) (kk H locs la hP hS hl)
theorem jv_if_eq (hC : hm_C X own cc nL ret d n S) {x : Int32} {off : Int} (tgt : Nat) (hd : decode cc pc = .ok (.ifCond .eq off, 3)) (ht : (pc : Int) + off = (tgt : Int)) (kt : x = 0 → hm_U X tgt ls st M Q) (kf : ¬ x = 0 → hm_U X (pc + 3) ls st M Q) : hm_U X pc ls (.int x :: st) M Q := by
  obtain ⟨⟨p, l, e, R, s⟩, ⟨m, args, below, meth, c⟩, ⟨dC, dI, dA, ad, A⟩, ⟨n', S', nL', cells, slots⟩⟩ := X
  obtain ⟨⟨hx, hb, -⟩, -, -⟩ := hC
  intro H locs la hP hS hl
  exact lv_if_eq hx hb hd ht (fun h => kt h H locs la hP hS hl) (fun h => kf h H locs la hP hS hl)
theorem jv_if_ne (hC : hm_C X own cc nL ret d n S) {x : Int32} {off : Int} (tgt : Nat) (hd : decode cc pc = .ok (.ifCond .ne off, 3)) (ht : (pc : Int) + off = (tgt : Int)) (kt : ¬ x = 0 → hm_U X tgt ls st M Q) (kf : x = 0 → hm_U X (pc + 3) ls st M Q) : hm_U X pc ls (.int x :: st) M Q := by
  obtain ⟨⟨p, l, e, R, s⟩, ⟨m, args, below, meth, c⟩, ⟨dC, dI, dA, ad, A⟩, ⟨n', S', nL', cells, slots⟩⟩ := X
  obtain ⟨⟨hx, hb, -⟩, -, -⟩ := hC
  intro H locs la hP hS hl
  exact lv_if_ne hx hb hd ht (fun h => kt h H locs la hP hS hl) (fun h => kf h H locs la hP hS hl)
theorem jv_if_lt (hC : hm_C X own cc nL ret d n S) {x : Int32} {off : Int} (tgt : Nat) (hd : decode cc pc = .ok (.ifCond .lt off, 3)) (ht : (pc : Int) + off = (tgt : Int)) (kt : x < 0 → hm_U X tgt ls st M Q) (kf : ¬ x < 0 → hm_U X (pc + 3) ls st M Q) : hm_U X pc ls (.int x :: st) M Q := by
  obtain ⟨⟨p, l, e, R, s⟩, ⟨m, args, below, meth, c⟩, ⟨dC, dI, dA, ad, A⟩, ⟨n', S', nL', cells, slots⟩⟩ := X
  obtain ⟨⟨hx, hb, -⟩, -, -⟩ := hC
  intro H locs la hP hS hl
  exact lv_if_lt hx hb hd ht (fun h => kt h H locs la hP hS hl) (fun h => kf h H locs la hP hS hl)
theorem jv_if_ge (hC : hm_C X own cc nL ret d n S) {x : Int32} {off : Int} (tgt : Nat) (hd : decode cc pc = .ok (.ifCond .ge off, 3)) (ht : (pc : Int) + off = (tgt : Int)) (kt : 0 ≤ x → hm_U X tgt ls st M Q) (kf : ¬ 0 ≤ x → hm_U X (pc + 3) ls st M Q) : hm_U X pc ls (.int x :: st) M Q := by
  obtain ⟨⟨p, l, e, R, s⟩, ⟨m, args, below, meth, c⟩, ⟨dC, dI, dA, ad, A⟩, ⟨n', S', nL', cells, slots⟩⟩ := X
  obtain ⟨⟨hx, hb, -⟩, -, -⟩ := hC
  intro H locs la hP hS hl
  exact lv_if_ge hx hb hd ht (fun h => kt h H locs la hP hS hl) (fun h => kf h H locs la hP hS hl)
theorem jv_if_gt (hC : hm_C X own cc nL ret d n S) {x : Int32} {off : Int} (tgt : Nat) (hd : decode cc pc = .ok (.ifCond .gt off, 3)) (ht : (pc : Int) + off = (tgt : Int)) (kt : 0 < x → hm_U X tgt ls st M Q) (kf : ¬ 0 < x → hm_U X (pc + 3) ls st M Q) : hm_U X pc ls (.int x :: st) M Q := by
  obtain ⟨⟨p, l, e, R, s⟩, ⟨m, args, below, meth, c⟩, ⟨dC, dI, dA, ad, A⟩, ⟨n', S', nL', cells, slots⟩⟩ := X
  obtain ⟨⟨hx, hb, -⟩, -, -⟩ := hC
  intro H locs la hP hS hl
  exact lv_if_gt hx hb hd ht (fun h => kt h H locs la hP hS hl) (fun h => kf h H locs la hP hS hl)
theorem jv_if_le (hC : hm_C X own cc nL ret d n S) {x : Int32} {off : Int} (tgt : Nat) (hd : decode cc pc = .ok (.ifCond .le off, 3)) (ht : (pc : Int) + off = (tgt : Int)) (kt : x ≤ 0 → hm_U X tgt ls st M Q) (kf : ¬ x ≤ 0 → hm_U X (pc + 3) ls st M Q) : hm_U X pc ls (.int x :: st) M Q := by
  obtain ⟨⟨p, l, e, R, s⟩, ⟨m, args, below, meth, c⟩, ⟨dC, dI, dA, ad, A⟩, ⟨n', S', nL', cells, slots⟩⟩ := X
  obtain ⟨⟨hx, hb, -⟩, -, -⟩ := hC
  intro H locs la hP hS hl
  exact lv_if_le hx hb hd ht (fun h => kt h H locs la hP hS hl) (fun h => kf h H locs la hP hS hl)
theorem jv_icmp_eq (hC : hm_C X own cc nL ret d n S) {x y : Int32} {off : Int} (tgt : Nat) (hd : decode cc pc = .ok (.if_icmp .eq off, 3)) (ht : (pc : Int) + off = (tgt : Int)) (kt : x = y → hm_U X tgt ls st M Q) (kf : ¬ x = y → hm_U X (pc + 3) ls st M Q) : hm_U X pc ls (.int y :: .int x :: st) M Q := by
  obtain ⟨⟨p, l, e, R, s⟩, ⟨m, args, below, meth, c⟩, ⟨dC, dI, dA, ad, A⟩, ⟨n', S', nL', cells, slots⟩⟩ := X
  obtain ⟨⟨hx, hb, -⟩, -, -⟩ := hC
  intro H locs la hP hS hl
  exact lv_icmp_eq hx hb hd ht (fun h => kt h H locs la hP hS hl) (fun h => kf h H locs la hP hS hl)
theorem jv_icmp_ne (hC : hm_C X own cc nL ret d n S) {x y : Int32} {off : Int} (tgt : Nat) (hd : decode cc pc = .ok (.if_icmp .ne off, 3)) (ht : (pc : Int) + off = (tgt : Int)) (kt : ¬ x = y → hm_U X tgt ls st M Q) (kf : x = y → hm_U X (pc + 3) ls st M Q) : hm_U X pc ls (.int y :: .int x :: st) M Q := by
  obtain ⟨⟨p, l, e, R, s⟩, ⟨m, args, below, meth, c⟩, ⟨dC, dI, dA, ad, A⟩, ⟨n', S', nL', cells, slots⟩⟩ := X
  obtain ⟨⟨hx, hb, -⟩, -, -⟩ := hC
  intro H locs la hP hS hl
  exact lv_icmp_ne hx hb hd ht (fun h => kt h H locs la hP hS hl) (fun h => kf h H locs la hP hS hl)
theorem jv_icmp_lt (hC : hm_C X own cc nL ret d n S) {x y : Int32} {off : Int} (tgt : Nat) (hd : decode cc pc = .ok (.if_icmp .lt off, 3)) (ht : (pc : Int) + off = (tgt : Int)) (kt : x < y → hm_U X tgt ls st M Q) (kf : ¬ x < y → hm_U X (pc + 3) ls st M Q) : hm_U X pc ls (.int y :: .int x :: st) M Q := by
  obtain ⟨⟨p, l, e, R, s⟩, ⟨m, args, below, meth, c⟩, ⟨dC, dI, dA, ad, A⟩, ⟨n', S', nL', cells, slots⟩⟩ := X
  obtain ⟨⟨hx, hb, -⟩, -, -⟩ := hC
  intro H locs la hP hS hl
  exact lv_icmp_lt hx hb hd ht (fun h => kt h H locs la hP hS hl) (fun h => kf h H locs la hP hS hl)
theorem jv_icmp_ge (hC : hm_C X own cc nL ret d n S) {x y : Int32} {off : Int} (tgt : Nat) (hd : decode cc pc = .ok (.if_icmp .ge off, 3)) (ht : (pc : Int) + off = (tgt : Int)) (kt : y ≤ x → hm_U X tgt ls st M Q) (kf : ¬ y ≤ x → hm_U X (pc + 3) ls st M Q) : hm_U X pc ls (.int y :: .int x :: st) M Q := by
  obtain ⟨⟨p, l, e, R, s⟩, ⟨m, args, below, meth, c⟩, ⟨dC, dI, dA, ad, A⟩, ⟨n', S', nL', cells, slots⟩⟩ := X
  obtain ⟨⟨hx, hb, -⟩, -, -⟩ := hC
  intro H locs la hP hS hl
  exact lv_icmp_ge hx hb hd ht (fun h => kt h H locs la hP hS hl) (fun h => kf h H locs la hP hS hl)
theorem jv_icmp_gt (hC : hm_C X own cc nL ret d n S) {x y : Int32} {off : Int} (tgt : Nat) (hd : decode cc pc = .ok (.if_icmp .gt off, 3)) (ht : (pc : Int) + off = (tgt : Int)) (kt : y < x → hm_U X tgt ls st M Q) (kf : ¬ y < x → hm_U X (pc + 3) ls st M Q) : hm_U X pc ls (.int y :: .int x :: st) M Q := by
  obtain ⟨⟨p, l, e, R, s⟩, ⟨m, args, below, meth, c⟩, ⟨dC, dI, dA, ad, A⟩, ⟨n', S', nL', cells, slots⟩⟩ := X
  obtain ⟨⟨hx, hb, -⟩, -, -⟩ := hC
  intro H locs la hP hS hl
  exact lv_icmp_gt hx hb hd ht (fun h => kt h H locs la hP hS hl) (fun h => kf h H locs la hP hS hl)
theorem jv_icmp_le (hC : hm_C X own cc nL ret d n S) {x y : Int32} {off : Int} (tgt : Nat) (hd : decode cc pc = .ok (.if_icmp .le off, 3)) (ht : (pc : Int) + off = (tgt : Int)) (kt : x ≤ y → hm_U X tgt ls st M Q) (kf : ¬ x ≤ y → hm_U X (pc + 3) ls st M Q) : hm_U X pc ls (.int y :: .int x :: st) M Q := by
  obtain ⟨⟨p, l, e, R, s⟩, ⟨m, args, below, meth, c⟩, ⟨dC, dI, dA, ad, A⟩, ⟨n', S', nL', cells, slots⟩⟩ := X
  obtain ⟨⟨hx, hb, -⟩, -, -⟩ := hC
  intro H locs la hP hS hl
  exact lv_icmp_le hx hb hd ht (fun h => kt h H locs la hP hS hl) (fun h => kf h H locs la hP hS hl)
theorem jv_goto (hC : hm_C X own cc nL ret d n S) {off : Int} (tgt : Nat) (hd : decode cc pc = .ok (.goto off, 3)) (ht : (pc : Int) + off = (tgt : Int)) (kk : hm_U X tgt ls st M Q) : hm_U X pc ls st M Q := by
  obtain ⟨⟨p, l, e, R, s⟩, ⟨m, args, below, meth, c⟩, ⟨dC, dI, dA, ad, A⟩, ⟨n', S', nL', cells, slots⟩⟩ := X
  obtain ⟨⟨hx, hb, -⟩, -, -⟩ := hC
  intro H locs la hP hS hl
  exact lv_goto hx hb hd ht (kk H locs la hP hS hl)
theorem jv_tableIn (hC : hm_C X own cc nL ret d n S) {dflt lo hi off : Int} {offs : Array Int} {len : Nat} {x : Int32} (tgt : Nat) (hd : decode cc pc = .ok (.tableswitch dflt lo hi offs, len)) (h1 : ¬ x.toInt < lo) (h2 : ¬ hi < x.toInt) (ho : offs[(x.toInt - lo).toNat]? = some off) (ht : (pc : Int) + off = (tgt : Int)) (kk : hm_U X tgt ls st M Q) : hm_U X pc ls (.int x :: st) M Q := by
  obtain ⟨⟨p, l, e, R, s⟩, ⟨m, args, below, meth, c⟩, ⟨dC, dI, dA, ad, A⟩, ⟨n', S', nL', cells, slots⟩⟩ := X
  obtain ⟨⟨hx, hb, -⟩, -, -⟩ := hC
  intro H locs la hP hS hl
  exact lv_tableIn hx hb hd h1 h2 ho ht (kk H locs la hP hS hl)
theorem jv_tableOut (hC : hm_C X own cc nL ret d n S) {dflt lo hi : Int} {offs : Array Int} {len : Nat} {x : Int32} (tgt : Nat) (hd : decode cc pc = .ok (.tableswitch dflt lo hi offs, len)) (h : x.toInt < lo ∨ hi < x.toInt) (ht : (pc : Int) + dflt = (tgt : Int)) (kk : hm_U X tgt ls st M Q) : hm_U X pc ls (.int x :: st) M Q := by
  obtain ⟨⟨p, l, e, R, s⟩, ⟨m, args, below, meth, c⟩, ⟨dC, dI, dA, ad, A⟩, ⟨n', S', nL', cells, slots⟩⟩ := X
  obtain ⟨⟨hx, hb, -⟩, -, -⟩ := hC
  intro H locs la hP hS hl
  exact lv_tableOut hx hb hd h ht (kk H locs la hP hS hl)
theorem jv_lookup (hC : hm_C X own cc nL ret d n S) {dflt off : Int} {ps : Array (Int × Int)} {len : Nat} {x : Int32} (tgt : Nat) (hd : decode cc pc = .ok (.lookupswitch dflt ps, len)) (hp : (ps.toList.zip (ps.toList.drop 1)).all (fun (a, next) => a.1 < next.1) = true) (ho : Op.lookupswitch.offset ps.toList dflt x.toInt = off) (ht : (pc : Int) + off = (tgt : Int)) (kk : hm_U X tgt ls st M Q) : hm_U X pc ls (.int x :: st) M Q := by
  obtain ⟨⟨p, l, e, R, s⟩, ⟨m, args, below, meth, c⟩, ⟨dC, dI, dA, ad, A⟩, ⟨n', S', nL', cells, slots⟩⟩ := X
  obtain ⟨⟨hx, hb, -⟩, -, -⟩ := hC
  intro H locs la hP hS hl
  exact lv_lookup hx hb hd hp ho ht (kk H locs la hP hS hl)
end Rows2
