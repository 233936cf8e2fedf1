/-! ===== the rules of X, an instruction each ===== -/
section RulesX
variable {R : Type} {g : mj_G} {po : R → Array Value → State → Outcome → State → Prop} {own : String} {cc : ByteArray} {nL : Nat} {ret : Option FieldType} {d pc : Nat} {L : List (Nat × Value)} {st : List Value} {M : mj_M} {o : Option R}
theorem mj_iadd {x y : Int32} (hd : decode cc pc = .ok (.iadd, 1)) (k : mj_X g po own cc nL ret d (pc + 1) L (.int (x + y) :: st) M o) : mj_X g po own cc nL ret d pc L (.int y :: .int x :: st) M o := by
  intro q hq p e s m args below meth c hx hb hml hr hlk hown hts hK hT H locs ls hP hD hS hl
  exact lv_iadd hx hb hd (k q hq p e s m args below meth c hx hb hml hr hlk hown hts hK hT H locs ls hP hD hS hl)
theorem mj_isub {x y : Int32} (hd : decode cc pc = .ok (.isub, 1)) (k : mj_X g po own cc nL ret d (pc + 1) L (.int (x - y) :: st) M o) : mj_X g po own cc nL ret d pc L (.int y :: .int x :: st) M o := by
  intro q hq p e s m args below meth c hx hb hml hr hlk hown hts hK hT H locs ls hP hD hS hl
  exact lv_isub hx hb hd (k q hq p e s m args below meth c hx hb hml hr hlk hown hts hK hT H locs ls hP hD hS hl)
theorem mj_imul {x y : Int32} (hd : decode cc pc = .ok (.imul, 1)) (k : mj_X g po own cc nL ret d (pc + 1) L (.int (x * y) :: st) M o) : mj_X g po own cc nL ret d pc L (.int y :: .int x :: st) M o := by
  intro q hq p e s m args below meth c hx hb hml hr hlk hown hts hK hT H locs ls hP hD hS hl
  exact lv_imul hx hb hd (k q hq p e s m args below meth c hx hb hml hr hlk hown hts hK hT H locs ls hP hD hS hl)
theorem mj_iand {x y : Int32} (hd : decode cc pc = .ok (.iand, 1)) (k : mj_X g po own cc nL ret d (pc + 1) L (.int (x &&& y) :: st) M o) : mj_X g po own cc nL ret d pc L (.int y :: .int x :: st) M o := by
  intro q hq p e s m args below meth c hx hb hml hr hlk hown hts hK hT H locs ls hP hD hS hl
  exact lv_iand hx hb hd (k q hq p e s m args below meth c hx hb hml hr hlk hown hts hK hT H locs ls hP hD hS hl)
theorem mj_ior {x y : Int32} (hd : decode cc pc = .ok (.ior, 1)) (k : mj_X g po own cc nL ret d (pc + 1) L (.int (x ||| y) :: st) M o) : mj_X g po own cc nL ret d pc L (.int y :: .int x :: st) M o := by
  intro q hq p e s m args below meth c hx hb hml hr hlk hown hts hK hT H locs ls hP hD hS hl
  exact lv_ior hx hb hd (k q hq p e s m args below meth c hx hb hml hr hlk hown hts hK hT H locs ls hP hD hS hl)
theorem mj_ixor {x y : Int32} (hd : decode cc pc = .ok (.ixor, 1)) (k : mj_X g po own cc nL ret d (pc + 1) L (.int (x ^^^ y) :: st) M o) : mj_X g po own cc nL ret d pc L (.int y :: .int x :: st) M o := by
  intro q hq p e s m args below meth c hx hb hml hr hlk hown hts hK hT H locs ls hP hD hS hl
  exact lv_ixor hx hb hd (k q hq p e s m args below meth c hx hb hml hr hlk hown hts hK hT H locs ls hP hD hS hl)
theorem mj_ishl {x y : Int32} (hd : decode cc pc = .ok (.ishl, 1)) (k : mj_X g po own cc nL ret d (pc + 1) L (.int (x <<< (y &&& 31)) :: st) M o) : mj_X g po own cc nL ret d pc L (.int y :: .int x :: st) M o := by
  intro q hq p e s m args below meth c hx hb hml hr hlk hown hts hK hT H locs ls hP hD hS hl
  exact lv_ishl hx hb hd (k q hq p e s m args below meth c hx hb hml hr hlk hown hts hK hT H locs ls hP hD hS hl)
theorem mj_ishr {x y : Int32} (hd : decode cc pc = .ok (.ishr, 1)) (k : mj_X g po own cc nL ret d (pc + 1) L (.int (x >>> (y &&& 31)) :: st) M o) : mj_X g po own cc nL ret d pc L (.int y :: .int x :: st) M o := by
  intro q hq p e s m args below meth c hx hb hml hr hlk hown hts hK hT H locs ls hP hD hS hl
  exact lv_ishr hx hb hd (k q hq p e s m args below meth c hx hb hml hr hlk hown hts hK hT H locs ls hP hD hS hl)
theorem mj_ladd {x y : Int64} (hd : decode cc pc = .ok (.ladd, 1)) (k : mj_X g po own cc nL ret d (pc + 1) L (.long (x + y) :: st) M o) : mj_X g po own cc nL ret d pc L (.long y :: .long x :: st) M o := by
  intro q hq p e s m args below meth c hx hb hml hr hlk hown hts hK hT H locs ls hP hD hS hl
  exact lv_ladd hx hb hd (k q hq p e s m args below meth c hx hb hml hr hlk hown hts hK hT H locs ls hP hD hS hl)
theorem mj_lsub {x y : Int64} (hd : decode cc pc = .ok (.lsub, 1)) (k : mj_X g po own cc nL ret d (pc + 1) L (.long (x - y) :: st) M o) : mj_X g po own cc nL ret d pc L (.long y :: .long x :: st) M o := by
  intro q hq p e s m args below meth c hx hb hml hr hlk hown hts hK hT H locs ls hP hD hS hl
  exact lv_lsub hx hb hd (k q hq p e s m args below meth c hx hb hml hr hlk hown hts hK hT H locs ls hP hD hS hl)
theorem mj_lmul {x y : Int64} (hd : decode cc pc = .ok (.lmul, 1)) (k : mj_X g po own cc nL ret d (pc + 1) L (.long (x * y) :: st) M o) : mj_X g po own cc nL ret d pc L (.long y :: .long x :: st) M o := by
  intro q hq p e s m args below meth c hx hb hml hr hlk hown hts hK hT H locs ls hP hD hS hl
  exact lv_lmul hx hb hd (k q hq p e s m args below meth c hx hb hml hr hlk hown hts hK hT H locs ls hP hD hS hl)
theorem mj_land {x y : Int64} (hd : decode cc pc = .ok (.land, 1)) (k : mj_X g po own cc nL ret d (pc + 1) L (.long (x &&& y) :: st) M o) : mj_X g po own cc nL ret d pc L (.long y :: .long x :: st) M o := by
  intro q hq p e s m args below meth c hx hb hml hr hlk hown hts hK hT H locs ls hP hD hS hl
  exact lv_land hx hb hd (k q hq p e s m args below meth c hx hb hml hr hlk hown hts hK hT H locs ls hP hD hS hl)
theorem mj_lor {x y : Int64} (hd : decode cc pc = .ok (.lor, 1)) (k : mj_X g po own cc nL ret d (pc + 1) L (.long (x ||| y) :: st) M o) : mj_X g po own cc nL ret d pc L (.long y :: .long x :: st) M o := by
  intro q hq p e s m args below meth c hx hb hml hr hlk hown hts hK hT H locs ls hP hD hS hl
  exact lv_lor hx hb hd (k q hq p e s m args below meth c hx hb hml hr hlk hown hts hK hT H locs ls hP hD hS hl)
def mj_us (x y : Int32) : Int32 := (x.toUInt32 >>> (y.toUInt32 &&& Int32.toUInt32 31)).toInt32
def mj_lus (x : Int64) (y : Int32) : Int64 := (x.toUInt64 >>> (y.toInt64.toUInt64 &&& Int64.toUInt64 63)).toInt64
theorem mj_iushr {x y : Int32} (hd : decode cc pc = .ok (.iushr, 1)) (k : mj_X g po own cc nL ret d (pc + 1) L (.int (mj_us x y) :: st) M o) : mj_X g po own cc nL ret d pc L (.int y :: .int x :: st) M o := by
  intro q hq p e s m args below meth c hx hb hml hr hlk hown hts hK hT H locs ls hP hD hS hl
  exact lv_iushr hx hb hd rfl (k q hq p e s m args below meth c hx hb hml hr hlk hown hts hK hT H locs ls hP hD hS hl)
theorem mj_lushr {x : Int64} {y : Int32} (hd : decode cc pc = .ok (.lushr, 1)) (k : mj_X g po own cc nL ret d (pc + 1) L (.long (mj_lus x y) :: st) M o) : mj_X g po own cc nL ret d pc L (.int y :: .long x :: st) M o := by
  intro q hq p e s m args below meth c hx hb hml hr hlk hown hts hK hT H locs ls hP hD hS hl
  exact lv_lushr hx hb hd rfl (k q hq p e s m args below meth c hx hb hml hr hlk hown hts hK hT H locs ls hP hD hS hl)
theorem mj_i2l {x : Int32} (hd : decode cc pc = .ok (.i2l, 1)) (k : mj_X g po own cc nL ret d (pc + 1) L (.long x.toInt64 :: st) M o) : mj_X g po own cc nL ret d pc L (.int x :: st) M o := by
  intro q hq p e s m args below meth c hx hb hml hr hlk hown hts hK hT H locs ls hP hD hS hl
  exact lv_i2l hx hb hd rfl (k q hq p e s m args below meth c hx hb hml hr hlk hown hts hK hT H locs ls hP hD hS hl)
theorem mj_l2i {x : Int64} (hd : decode cc pc = .ok (.l2i, 1)) (k : mj_X g po own cc nL ret d (pc + 1) L (.int x.toInt32 :: st) M o) : mj_X g po own cc nL ret d pc L (.long x :: st) M o := by
  intro q hq p e s m args below meth c hx hb hml hr hlk hown hts hK hT H locs ls hP hD hS hl
  exact lv_l2i hx hb hd rfl (k q hq p e s m args below meth c hx hb hml hr hlk hown hts hK hT H locs ls hP hD hS hl)
theorem mj_ineg {x : Int32} (hd : decode cc pc = .ok (.ineg, 1)) (k : mj_X g po own cc nL ret d (pc + 1) L (.int (-x) :: st) M o) : mj_X g po own cc nL ret d pc L (.int x :: st) M o := by
  intro q hq p e s m args below meth c hx hb hml hr hlk hown hts hK hT H locs ls hP hD hS hl
  exact lv_ineg hx hb hd (k q hq p e s m args below meth c hx hb hml hr hlk hown hts hK hT H locs ls hP hD hS hl)
theorem mj_lcmp {x y : Int64} (hd : decode cc pc = .ok (.lcmp, 1)) (k : mj_X g po own cc nL ret d (pc + 1) L (.int (lg_cmp x y) :: st) M o) : mj_X g po own cc nL ret d pc L (.long y :: .long x :: st) M o := by
  intro q hq p e s m args below meth c hx hb hml hr hlk hown hts hK hT H locs ls hP hD hS hl
  exact W.lcmp hx hb hd (k q hq p e s m args below meth c hx hb hml hr hlk hown hts hK hT H locs ls hP hD hS hl)
theorem mj_iconst {n : Int} {v : Int32} (hv : Int32.ofInt n = v) (hd : decode cc pc = .ok (.iconst n, 1)) (k : mj_X g po own cc nL ret d (pc + 1) L (.int v :: st) M o) : mj_X g po own cc nL ret d pc L (st) M o := by
  intro q hq p e s m args below meth c hx hb hml hr hlk hown hts hK hT H locs ls hP hD hS hl
  exact lv_iconst hx hb hd hv (k q hq p e s m args below meth c hx hb hml hr hlk hown hts hK hT H locs ls hP hD hS hl)
theorem mj_bipush {n : Int} {v : Int32} (hv : (Int8.ofInt n).toInt32 = v) (hd : decode cc pc = .ok (.bipush n, 2)) (k : mj_X g po own cc nL ret d (pc + 2) L (.int v :: st) M o) : mj_X g po own cc nL ret d pc L (st) M o := by
  intro q hq p e s m args below meth c hx hb hml hr hlk hown hts hK hT H locs ls hP hD hS hl
  exact lv_bipush hx hb hd hv (k q hq p e s m args below meth c hx hb hml hr hlk hown hts hK hT H locs ls hP hD hS hl)
theorem mj_sipush {n : Int} {v : Int32} (hv : (Int16.ofInt n).toInt32 = v) (hd : decode cc pc = .ok (.sipush n, 3)) (k : mj_X g po own cc nL ret d (pc + 3) L (.int v :: st) M o) : mj_X g po own cc nL ret d pc L (st) M o := by
  intro q hq p e s m args below meth c hx hb hml hr hlk hown hts hK hT H locs ls hP hD hS hl
  exact lv_sipush hx hb hd hv (k q hq p e s m args below meth c hx hb hml hr hlk hown hts hK hT H locs ls hP hD hS hl)
theorem mj_lconst {n : Fin 2} {v : Int64} (hv : Int64.ofNat (n : Nat) = v) (hd : decode cc pc = .ok (.lconst n, 1)) (k : mj_X g po own cc nL ret d (pc + 1) L (.long v :: st) M o) : mj_X g po own cc nL ret d pc L (st) M o := by
  intro q hq p e s m args below meth c hx hb hml hr hlk hown hts hK hT H locs ls hP hD hS hl
  exact lv_lconst hx hb hd hv (k q hq p e s m args below meth c hx hb hml hr hlk hown hts hK hT H locs ls hP hD hS hl)
theorem mj_dup {v : Value} (hv : v.category = 1) (hd : decode cc pc = .ok (.dup, 1)) (k : mj_X g po own cc nL ret d (pc + 1) L (v :: v :: st) M o) : mj_X g po own cc nL ret d pc L (v :: st) M o := by
  intro q hq p e s m args below meth c hx hb hml hr hlk hown hts hK hT H locs ls hP hD hS hl
  exact lv_dup hx hb hd (by rw [mj_vcat]; exact hv) (k q hq p e s m args below meth c hx hb hml hr hlk hown hts hK hT H locs ls hP hD hS hl)
theorem mj_pop {v : Value} (hv : v.category = 1) (hd : decode cc pc = .ok (.pop, 1)) (k : mj_X g po own cc nL ret d (pc + 1) L (st) M o) : mj_X g po own cc nL ret d pc L (v :: st) M o := by
  intro q hq p e s m args below meth c hx hb hml hr hlk hown hts hK hT H locs ls hP hD hS hl
  exact lv_pop hx hb hd (by rw [mj_vcat]; exact hv) (k q hq p e s m args below meth c hx hb hml hr hlk hown hts hK hT H locs ls hP hD hS hl)
theorem mj_dup2 {v u : Value} (hv : v.category = 1) (hu : u.category = 1) (hd : decode cc pc = .ok (.dup2, 1)) (k : mj_X g po own cc nL ret d (pc + 1) L (v :: u :: v :: u :: st) M o) : mj_X g po own cc nL ret d pc L (v :: u :: st) M o := by
  intro q hq p e s m args below meth c hx hb hml hr hlk hown hts hK hT H locs ls hP hD hS hl
  exact lv_dup2_11 hx hb hd (by rw [mj_vcat]; exact hv) (by rw [mj_vcat]; exact hu) (k q hq p e s m args below meth c hx hb hml hr hlk hown hts hK hT H locs ls hP hD hS hl)
theorem mj_ldc {i : Nat} {v : Int32} (hc : Cond.constant own i v ∈ mj_TT) (hd : decode cc pc = .ok (.ldc i, 2)) (k : mj_X g po own cc nL ret d (pc + 2) L (.int v :: st) M o) : mj_X g po own cc nL ret d pc L st M o := by
  intro q hq p e s m args below meth c hx hb hml hr hlk hown hts hK hT H locs ls hP hD hS hl
  exact lv_ldc hx hb hown (hts _ hc) hd (k q hq p e s m args below meth c hx hb hml hr hlk hown hts hK hT H locs ls hP hD hS hl)
theorem mj_ldcw {i : Nat} {v : Int32} (hc : Cond.constant own i v ∈ mj_TT) (hd : decode cc pc = .ok (.ldc_w i, 3)) (k : mj_X g po own cc nL ret d (pc + 3) L (.int v :: st) M o) : mj_X g po own cc nL ret d pc L st M o := by
  intro q hq p e s m args below meth c hx hb hml hr hlk hown hts hK hT H locs ls hP hD hS hl
  exact lv_ldcw hx hb hown (hts _ hc) hd (k q hq p e s m args below meth c hx hb hml hr hlk hown hts hK hT H locs ls hP hD hS hl)
theorem mj_ldc2 {i : Nat} {v : Int64} (hc : Cond.constantLong own i v ∈ mj_TT) (hd : decode cc pc = .ok (.ldc2_w i, 3)) (k : mj_X g po own cc nL ret d (pc + 3) L (.long v :: st) M o) : mj_X g po own cc nL ret d pc L st M o := by
  intro q hq p e s m args below meth c hx hb hml hr hlk hown hts hK hT H locs ls hP hD hS hl
  exact lv_ldc2 hx hb hown (hts _ hc) hd (k q hq p e s m args below meth c hx hb hml hr hlk hown hts hK hT H locs ls hP hD hS hl)
theorem mj_idiv {x y : Int32} (hd : decode cc pc = .ok (.idiv, 1)) (k : mj_X g po own cc nL ret d (pc + 1) L (.int (x / y) :: st) M o) : mj_X g po own cc nL ret d pc L (.int y :: .int x :: st) M (if y = 0 then none else o) := by
  intro q hq p e s m args below meth c hx hb hml hr hlk hown hts hK hT H locs ls hP hD hS hl
  by_cases h0 : y = 0
  · rw [if_pos h0] at hq; cases hq
  · rw [if_neg h0] at hq
    exact lv_idiv hx hb hd h0 (k q hq p e s m args below meth c hx hb hml hr hlk hown hts hK hT H locs ls hP hD hS hl)
theorem mj_idivK {x y : Int32} (h0 : ¬ y = 0) (hd : decode cc pc = .ok (.idiv, 1)) (k : mj_X g po own cc nL ret d (pc + 1) L (.int (x / y) :: st) M o) : mj_X g po own cc nL ret d pc L (.int y :: .int x :: st) M o := by
  intro q hq p e s m args below meth c hx hb hml hr hlk hown hts hK hT H locs ls hP hD hS hl
  exact lv_idiv hx hb hd h0 (k q hq p e s m args below meth c hx hb hml hr hlk hown hts hK hT H locs ls hP hD hS hl)
theorem mj_irem {x y : Int32} (hd : decode cc pc = .ok (.irem, 1)) (k : mj_X g po own cc nL ret d (pc + 1) L (.int (x - x / y * y) :: st) M o) : mj_X g po own cc nL ret d pc L (.int y :: .int x :: st) M (if y = 0 then none else o) := by
  intro q hq p e s m args below meth c hx hb hml hr hlk hown hts hK hT H locs ls hP hD hS hl
  by_cases h0 : y = 0
  · rw [if_pos h0] at hq; cases hq
  · rw [if_neg h0] at hq
    exact lv_irem hx hb hd h0 (k q hq p e s m args below meth c hx hb hml hr hlk hown hts hK hT H locs ls hP hD hS hl)
theorem mj_iremK {x y : Int32} (h0 : ¬ y = 0) (hd : decode cc pc = .ok (.irem, 1)) (k : mj_X g po own cc nL ret d (pc + 1) L (.int (x - x / y * y) :: st) M o) : mj_X g po own cc nL ret d pc L (.int y :: .int x :: st) M o := by
  intro q hq p e s m args below meth c hx hb hml hr hlk hown hts hK hT H locs ls hP hD hS hl
  exact lv_irem hx hb hd h0 (k q hq p e s m args below meth c hx hb hml hr hlk hown hts hK hT H locs ls hP hD hS hl)
theorem mj_ldiv {x y : Int64} (hd : decode cc pc = .ok (.ldiv, 1)) (k : mj_X g po own cc nL ret d (pc + 1) L (.long (x / y) :: st) M o) : mj_X g po own cc nL ret d pc L (.long y :: .long x :: st) M (if y = 0 then none else o) := by
  intro q hq p e s m args below meth c hx hb hml hr hlk hown hts hK hT H locs ls hP hD hS hl
  by_cases h0 : y = 0
  · rw [if_pos h0] at hq; cases hq
  · rw [if_neg h0] at hq
    exact lv_ldiv hx hb hd h0 (k q hq p e s m args below meth c hx hb hml hr hlk hown hts hK hT H locs ls hP hD hS hl)
theorem mj_ldivK {x y : Int64} (h0 : ¬ y = 0) (hd : decode cc pc = .ok (.ldiv, 1)) (k : mj_X g po own cc nL ret d (pc + 1) L (.long (x / y) :: st) M o) : mj_X g po own cc nL ret d pc L (.long y :: .long x :: st) M o := by
  intro q hq p e s m args below meth c hx hb hml hr hlk hown hts hK hT H locs ls hP hD hS hl
  exact lv_ldiv hx hb hd h0 (k q hq p e s m args below meth c hx hb hml hr hlk hown hts hK hT H locs ls hP hD hS hl)
theorem mj_lrem {x y : Int64} (hd : decode cc pc = .ok (.lrem, 1)) (k : mj_X g po own cc nL ret d (pc + 1) L (.long (x - x / y * y) :: st) M o) : mj_X g po own cc nL ret d pc L (.long y :: .long x :: st) M (if y = 0 then none else o) := by
  intro q hq p e s m args below meth c hx hb hml hr hlk hown hts hK hT H locs ls hP hD hS hl
  by_cases h0 : y = 0
  · rw [if_pos h0] at hq; cases hq
  · rw [if_neg h0] at hq
    exact lv_lrem hx hb hd h0 (k q hq p e s m args below meth c hx hb hml hr hlk hown hts hK hT H locs ls hP hD hS hl)
theorem mj_lremK {x y : Int64} (h0 : ¬ y = 0) (hd : decode cc pc = .ok (.lrem, 1)) (k : mj_X g po own cc nL ret d (pc + 1) L (.long (x - x / y * y) :: st) M o) : mj_X g po own cc nL ret d pc L (.long y :: .long x :: st) M o := by
  intro q hq p e s m args below meth c hx hb hml hr hlk hown hts hK hT H locs ls hP hD hS hl
  exact lv_lrem hx hb hd h0 (k q hq p e s m args below meth c hx hb hml hr hlk hown hts hK hT H locs ls hP hD hS hl)
def mj_lg (L : List (Nat × Value)) (i : Nat) : Option Value := (L.find? (fun q => q.1 == i)).map (fun q => q.2)
theorem mj_lat {ad : Nat → Nat} {ls : Array Slot} {n i : Nat} {L : List (Nat × Value)} {v : Value} (h : mj_lg L i = some v) (hl : lv_has ls n (L.map (mj_p ad))) : ls[i]? = some (.val (mj_v ad v)) := by
  unfold mj_lg at h
  obtain ⟨q, hq, rfl⟩ := Option.map_eq_some_iff.mp h
  have h1 := List.mem_of_find?_eq_some hq
  have h2 : (q.1 == i) = true := List.find?_some (p := fun q : Nat × Value => q.1 == i) hq
  have h3 := hl.2.2 (mj_p ad q) (List.mem_map_of_mem h1)
  rw [beq_iff_eq] at h2
  rw [← h2]; exact h3
def mj_s1 (L : List (Nat × Value)) (i : Nat) (v : Value) : List (Nat × Value) := (i, v) :: L.filter (fun q => !(q.1 == i) && !(q.1 + 1 == i && q.2.category == 2))
def mj_s2 (L : List (Nat × Value)) (i : Nat) (v : Value) : List (Nat × Value) := (i, v) :: L.filter (fun q => !(q.1 == i) && (!(q.1 == i + 1) && !(q.1 + 1 == i && q.2.category == 2)))
theorem mj_s1m (ad : Nat → Nat) (L : List (Nat × Value)) (i : Nat) (v : Value) : (i, mj_v ad v) :: (L.map (mj_p ad)).filter (fun q => !(q.1 == i) && !(q.1 + 1 == i && q.2.category == 2)) = (mj_s1 L i v).map (mj_p ad) := by
  simp only [mj_s1, List.map_cons, List.filter_map]
  congr 2
  refine List.filter_congr fun q _ => ?_
  simp [mj_p, mj_vcat]
theorem mj_s2m (ad : Nat → Nat) (L : List (Nat × Value)) (i : Nat) (v : Value) : (i, mj_v ad v) :: (L.map (mj_p ad)).filter (fun q => !(q.1 == i) && (!(q.1 == i + 1) && !(q.1 + 1 == i && q.2.category == 2))) = (mj_s2 L i v).map (mj_p ad) := by
  simp only [mj_s2, List.map_cons, List.filter_map]
  congr 2
  refine List.filter_congr fun q _ => ?_
  simp [mj_p, mj_vcat]
theorem mj_iload {i : Nat} {x : Int32} (hi : mj_lg L i = some (.int x)) (hd : decode cc pc = .ok (.iload i, 2)) (k : mj_X g po own cc nL ret d (pc + 2) L (.int x :: st) M o) : mj_X g po own cc nL ret d pc L st M o := by
  intro q hq p e s m args below meth c hx hb hml hr hlk hown hts hK hT H locs ls hP hD hS hl
  exact lv_iload hx hb hd (mj_lat hi hl) (k q hq p e s m args below meth c hx hb hml hr hlk hown hts hK hT H locs ls hP hD hS hl)
theorem mj_iload_n {i : Fin 4} {x : Int32} (hi : mj_lg L (i : Nat) = some (.int x)) (hd : decode cc pc = .ok (.iload_n i, 1)) (k : mj_X g po own cc nL ret d (pc + 1) L (.int x :: st) M o) : mj_X g po own cc nL ret d pc L st M o := by
  intro q hq p e s m args below meth c hx hb hml hr hlk hown hts hK hT H locs ls hP hD hS hl
  exact lv_iload_n hx hb hd rfl (mj_lat hi hl) (k q hq p e s m args below meth c hx hb hml hr hlk hown hts hK hT H locs ls hP hD hS hl)
theorem mj_lload {i : Nat} {x : Int64} (hi : mj_lg L i = some (.long x)) (hd : decode cc pc = .ok (.lload i, 2)) (k : mj_X g po own cc nL ret d (pc + 2) L (.long x :: st) M o) : mj_X g po own cc nL ret d pc L st M o := by
  intro q hq p e s m args below meth c hx hb hml hr hlk hown hts hK hT H locs ls hP hD hS hl
  exact lv_lload hx hb hd (mj_lat hi hl) (k q hq p e s m args below meth c hx hb hml hr hlk hown hts hK hT H locs ls hP hD hS hl)
theorem mj_lload_n {i : Fin 4} {x : Int64} (hi : mj_lg L (i : Nat) = some (.long x)) (hd : decode cc pc = .ok (.lload_n i, 1)) (k : mj_X g po own cc nL ret d (pc + 1) L (.long x :: st) M o) : mj_X g po own cc nL ret d pc L st M o := by
  intro q hq p e s m args below meth c hx hb hml hr hlk hown hts hK hT H locs ls hP hD hS hl
  exact lv_lload_n hx hb hd rfl (mj_lat hi hl) (k q hq p e s m args below meth c hx hb hml hr hlk hown hts hK hT H locs ls hP hD hS hl)
theorem mj_aload {i : Nat} {x : Nat} (hi : mj_lg L i = some (.ref x)) (hd : decode cc pc = .ok (.aload i, 2)) (k : mj_X g po own cc nL ret d (pc + 2) L (.ref x :: st) M o) : mj_X g po own cc nL ret d pc L st M o := by
  intro q hq p e s m args below meth c hx hb hml hr hlk hown hts hK hT H locs ls hP hD hS hl
  exact lv_aload hx hb hd (mj_lat hi hl) (k q hq p e s m args below meth c hx hb hml hr hlk hown hts hK hT H locs ls hP hD hS hl)
theorem mj_aload_n {i : Fin 4} {x : Nat} (hi : mj_lg L (i : Nat) = some (.ref x)) (hd : decode cc pc = .ok (.aload_n i, 1)) (k : mj_X g po own cc nL ret d (pc + 1) L (.ref x :: st) M o) : mj_X g po own cc nL ret d pc L st M o := by
  intro q hq p e s m args below meth c hx hb hml hr hlk hown hts hK hT H locs ls hP hD hS hl
  exact lv_aload_n hx hb hd rfl (mj_lat hi hl) (k q hq p e s m args below meth c hx hb hml hr hlk hown hts hK hT H locs ls hP hD hS hl)
theorem mj_istore {i : Nat} {x : Int32} (hn : i < nL) (hd : decode cc pc = .ok (.istore i, 2)) (k : mj_X g po own cc nL ret d (pc + 2) (mj_s1 L i (.int x)) st M o) : mj_X g po own cc nL ret d pc L (.int x :: st) M o := by
  intro q hq p e s m args below meth c hx hb hml hr hlk hown hts hK hT H locs ls hP hD hS hl
  refine lv_istore hx hb hd hl hn (mj_s1m (mj_d g) L i (.int x)) (fun ls' hl' => ?_)
  exact k q hq p e s m args below meth c hx hb hml hr hlk hown hts hK hT H locs ls' hP hD hS hl'
def mj_lt {α β : Type} (x : α) (f : α → β) : β := f x
theorem mj_istoreL {i : Nat} {x : Int32} {f : Int32 → Option R} (hn : i < nL) (hd : decode cc pc = .ok (.istore i, 2)) (k : ∀ y, y = x → mj_X g po own cc nL ret d (pc + 2) (mj_s1 L i (.int y)) st M (f y)) : mj_X g po own cc nL ret d pc L (.int x :: st) M (mj_lt x f) := by
  intro q hq p e s m args below meth c hx hb hml hr hlk hown hts hK hT H locs ls hP hD hS hl
  refine lv_istore hx hb hd hl hn (mj_s1m (mj_d g) L i (.int x)) (fun ls' hl' => ?_)
  exact (k x rfl) q hq p e s m args below meth c hx hb hml hr hlk hown hts hK hT H locs ls' hP hD hS hl'
theorem mj_istore_n {i : Fin 4} {x : Int32} (hn : (i : Nat) < nL) (hd : decode cc pc = .ok (.istore_n i, 1)) (k : mj_X g po own cc nL ret d (pc + 1) (mj_s1 L (i : Nat) (.int x)) st M o) : mj_X g po own cc nL ret d pc L (.int x :: st) M o := by
  intro q hq p e s m args below meth c hx hb hml hr hlk hown hts hK hT H locs ls hP hD hS hl
  refine lv_istore_n hx hb hd rfl hl hn (mj_s1m (mj_d g) L (i : Nat) (.int x)) (fun ls' hl' => ?_)
  exact k q hq p e s m args below meth c hx hb hml hr hlk hown hts hK hT H locs ls' hP hD hS hl'
theorem mj_istore_nL {i : Fin 4} {x : Int32} {f : Int32 → Option R} (hn : (i : Nat) < nL) (hd : decode cc pc = .ok (.istore_n i, 1)) (k : ∀ y, y = x → mj_X g po own cc nL ret d (pc + 1) (mj_s1 L (i : Nat) (.int y)) st M (f y)) : mj_X g po own cc nL ret d pc L (.int x :: st) M (mj_lt x f) := by
  intro q hq p e s m args below meth c hx hb hml hr hlk hown hts hK hT H locs ls hP hD hS hl
  refine lv_istore_n hx hb hd rfl hl hn (mj_s1m (mj_d g) L (i : Nat) (.int x)) (fun ls' hl' => ?_)
  exact (k x rfl) q hq p e s m args below meth c hx hb hml hr hlk hown hts hK hT H locs ls' hP hD hS hl'
theorem mj_lstore {i : Nat} {x : Int64} (hn : i + 1 < nL) (hd : decode cc pc = .ok (.lstore i, 2)) (k : mj_X g po own cc nL ret d (pc + 2) (mj_s2 L i (.long x)) st M o) : mj_X g po own cc nL ret d pc L (.long x :: st) M o := by
  intro q hq p e s m args below meth c hx hb hml hr hlk hown hts hK hT H locs ls hP hD hS hl
  refine lv_lstore hx hb hd hl hn (mj_s2m (mj_d g) L i (.long x)) (fun ls' hl' => ?_)
  exact k q hq p e s m args below meth c hx hb hml hr hlk hown hts hK hT H locs ls' hP hD hS hl'
theorem mj_lstoreL {i : Nat} {x : Int64} {f : Int64 → Option R} (hn : i + 1 < nL) (hd : decode cc pc = .ok (.lstore i, 2)) (k : ∀ y, y = x → mj_X g po own cc nL ret d (pc + 2) (mj_s2 L i (.long y)) st M (f y)) : mj_X g po own cc nL ret d pc L (.long x :: st) M (mj_lt x f) := by
  intro q hq p e s m args below meth c hx hb hml hr hlk hown hts hK hT H locs ls hP hD hS hl
  refine lv_lstore hx hb hd hl hn (mj_s2m (mj_d g) L i (.long x)) (fun ls' hl' => ?_)
  exact (k x rfl) q hq p e s m args below meth c hx hb hml hr hlk hown hts hK hT H locs ls' hP hD hS hl'
theorem mj_lstore_n {i : Fin 4} {x : Int64} (hn : (i : Nat) + 1 < nL) (hd : decode cc pc = .ok (.lstore_n i, 1)) (k : mj_X g po own cc nL ret d (pc + 1) (mj_s2 L (i : Nat) (.long x)) st M o) : mj_X g po own cc nL ret d pc L (.long x :: st) M o := by
  intro q hq p e s m args below meth c hx hb hml hr hlk hown hts hK hT H locs ls hP hD hS hl
  refine lv_lstore_n hx hb hd rfl hl hn (mj_s2m (mj_d g) L (i : Nat) (.long x)) (fun ls' hl' => ?_)
  exact k q hq p e s m args below meth c hx hb hml hr hlk hown hts hK hT H locs ls' hP hD hS hl'
theorem mj_lstore_nL {i : Fin 4} {x : Int64} {f : Int64 → Option R} (hn : (i : Nat) + 1 < nL) (hd : decode cc pc = .ok (.lstore_n i, 1)) (k : ∀ y, y = x → mj_X g po own cc nL ret d (pc + 1) (mj_s2 L (i : Nat) (.long y)) st M (f y)) : mj_X g po own cc nL ret d pc L (.long x :: st) M (mj_lt x f) := by
  intro q hq p e s m args below meth c hx hb hml hr hlk hown hts hK hT H locs ls hP hD hS hl
  refine lv_lstore_n hx hb hd rfl hl hn (mj_s2m (mj_d g) L (i : Nat) (.long x)) (fun ls' hl' => ?_)
  exact (k x rfl) q hq p e s m args below meth c hx hb hml hr hlk hown hts hK hT H locs ls' hP hD hS hl'
theorem mj_iinc {i : Nat} {n : Int} {x z : Int32} (hi : mj_lg L i = some (.int x)) (hz : Int32.ofInt n = z) (hn : i < nL) (hd : decode cc pc = .ok (.iinc i n, 3)) (k : mj_X g po own cc nL ret d (pc + 3) (mj_s1 L i (.int (x + z))) st M o) : mj_X g po own cc nL ret d pc L st M o := by
  intro q hq p e s m args below meth c hx hb hml hr hlk hown hts hK hT H locs ls hP hD hS hl
  have h1 := mj_lat hi hl
  have hl2 : lv_has ls nL ((i, .int x) :: L.map (mj_p (mj_d g))) := ⟨hl.1, hl.2.1, fun q hq => (List.mem_cons.mp hq).elim (fun e => by subst e; exact h1) (hl.2.2 q)⟩
  refine lv_iinc (k := 0) (v := x + z) (lv' := (mj_s1 L i (.int (x + z))).map (mj_p (mj_d g))) hx hb hd hl2 rfl (by rw [hz]) hn ?_ (fun ls' hl' => ?_)
  · rw [← mj_s1m]; simp [mj_v]
  · exact k q hq p e s m args below meth c hx hb hml hr hlk hown hts hK hT H locs ls' hP hD hS hl'
theorem mj_L {L' : List (Nat × Value)} (ks : List Nat) (h : lv_pick L ks = L') (k : mj_X g po own cc nL ret d pc L' st M o) : mj_X g po own cc nL ret d pc L st M o := by
  intro q hq p e s m args below meth c hx hb hml hr hlk hown hts hK hT H locs ls hP hD hS hl
  refine k q hq p e s m args below meth c hx hb hml hr hlk hown hts hK hT H locs ls hP hD hS ⟨hl.1, hl.2.1, fun z hz => hl.2.2 z ?_⟩
  obtain ⟨y, hy, rfl⟩ := List.mem_map.mp hz
  rw [← h] at hy
  obtain ⟨i, -, hi⟩ := List.mem_filterMap.mp hy
  exact List.mem_map_of_mem (List.mem_of_getElem? hi)
theorem mj_icmp_eq {x y : Int32} {off : Int} {tgt : Nat} {o1 o2 : Option R} (hd : decode cc pc = .ok (.if_icmp .eq off, 3)) (ht : (pc : Int) + off = (tgt : Int)) (kt : (x = y) → mj_X g po own cc nL ret d tgt L st M o1) (kf : ¬ (x = y) → mj_X g po own cc nL ret d (pc + 3) L st M o2) : mj_X g po own cc nL ret d pc L (.int y :: .int x :: st) M (if x = y then o1 else o2) := by
  intro q hq p e s m args below meth c hx hb hml hr hlk hown hts hK hT H locs ls hP hD hS hl
  refine lv_icmp_eq hx hb hd ht (fun h => ?_) (fun h => ?_)
  · rw [if_pos h] at hq; exact kt h q hq p e s m args below meth c hx hb hml hr hlk hown hts hK hT H locs ls hP hD hS hl
  · rw [if_neg h] at hq; exact kf h q hq p e s m args below meth c hx hb hml hr hlk hown hts hK hT H locs ls hP hD hS hl
theorem mj_icmp_eqT {x y : Int32} {off : Int} {tgt : Nat} (h : x = y) (hd : decode cc pc = .ok (.if_icmp .eq off, 3)) (ht : (pc : Int) + off = (tgt : Int)) (kt : mj_X g po own cc nL ret d tgt L st M o) : mj_X g po own cc nL ret d pc L (.int y :: .int x :: st) M o := by
  intro q hq p e s m args below meth c hx hb hml hr hlk hown hts hK hT H locs ls hP hD hS hl
  refine lv_icmp_eq hx hb hd ht (fun _ => ?_) (fun h2 => absurd h h2)
  exact kt q hq p e s m args below meth c hx hb hml hr hlk hown hts hK hT H locs ls hP hD hS hl
theorem mj_icmp_eqF {x y : Int32} {off : Int} {tgt : Nat} (h : ¬ (x = y)) (hd : decode cc pc = .ok (.if_icmp .eq off, 3)) (ht : (pc : Int) + off = (tgt : Int)) (kf : mj_X g po own cc nL ret d (pc + 3) L st M o) : mj_X g po own cc nL ret d pc L (.int y :: .int x :: st) M o := by
  intro q hq p e s m args below meth c hx hb hml hr hlk hown hts hK hT H locs ls hP hD hS hl
  refine lv_icmp_eq hx hb hd ht (fun h2 => absurd h2 h) (fun _ => ?_)
  exact kf q hq p e s m args below meth c hx hb hml hr hlk hown hts hK hT H locs ls hP hD hS hl
theorem mj_if_eq {x : Int32} {off : Int} {tgt : Nat} {o1 o2 : Option R} (hd : decode cc pc = .ok (.ifCond .eq off, 3)) (ht : (pc : Int) + off = (tgt : Int)) (kt : (x = 0) → mj_X g po own cc nL ret d tgt L st M o1) (kf : ¬ (x = 0) → mj_X g po own cc nL ret d (pc + 3) L st M o2) : mj_X g po own cc nL ret d pc L (.int x :: st) M (if x = 0 then o1 else o2) := by
  intro q hq p e s m args below meth c hx hb hml hr hlk hown hts hK hT H locs ls hP hD hS hl
  refine lv_if_eq hx hb hd ht (fun h => ?_) (fun h => ?_)
  · rw [if_pos h] at hq; exact kt h q hq p e s m args below meth c hx hb hml hr hlk hown hts hK hT H locs ls hP hD hS hl
  · rw [if_neg h] at hq; exact kf h q hq p e s m args below meth c hx hb hml hr hlk hown hts hK hT H locs ls hP hD hS hl
theorem mj_if_eqT {x : Int32} {off : Int} {tgt : Nat} (h : x = 0) (hd : decode cc pc = .ok (.ifCond .eq off, 3)) (ht : (pc : Int) + off = (tgt : Int)) (kt : mj_X g po own cc nL ret d tgt L st M o) : mj_X g po own cc nL ret d pc L (.int x :: st) M o := by
  intro q hq p e s m args below meth c hx hb hml hr hlk hown hts hK hT H locs ls hP hD hS hl
  refine lv_if_eq hx hb hd ht (fun _ => ?_) (fun h2 => absurd h h2)
  exact kt q hq p e s m args below meth c hx hb hml hr hlk hown hts hK hT H locs ls hP hD hS hl
theorem mj_if_eqF {x : Int32} {off : Int} {tgt : Nat} (h : ¬ (x = 0)) (hd : decode cc pc = .ok (.ifCond .eq off, 3)) (ht : (pc : Int) + off = (tgt : Int)) (kf : mj_X g po own cc nL ret d (pc + 3) L st M o) : mj_X g po own cc nL ret d pc L (.int x :: st) M o := by
  intro q hq p e s m args below meth c hx hb hml hr hlk hown hts hK hT H locs ls hP hD hS hl
  refine lv_if_eq hx hb hd ht (fun h2 => absurd h2 h) (fun _ => ?_)
  exact kf q hq p e s m args below meth c hx hb hml hr hlk hown hts hK hT H locs ls hP hD hS hl
theorem mj_icmp_ne {x y : Int32} {off : Int} {tgt : Nat} {o1 o2 : Option R} (hd : decode cc pc = .ok (.if_icmp .ne off, 3)) (ht : (pc : Int) + off = (tgt : Int)) (kf : x = y → mj_X g po own cc nL ret d (pc + 3) L st M o2) (kt : ¬ x = y → mj_X g po own cc nL ret d tgt L st M o1) : mj_X g po own cc nL ret d pc L (.int y :: .int x :: st) M (if x = y then o2 else o1) := by
  intro q hq p e s m args below meth c hx hb hml hr hlk hown hts hK hT H locs ls hP hD hS hl
  refine lv_icmp_ne hx hb hd ht (fun h => ?_) (fun h => ?_)
  · rw [if_neg h] at hq; exact kt h q hq p e s m args below meth c hx hb hml hr hlk hown hts hK hT H locs ls hP hD hS hl
  · rw [if_pos h] at hq; exact kf h q hq p e s m args below meth c hx hb hml hr hlk hown hts hK hT H locs ls hP hD hS hl
theorem mj_icmp_neT {x y : Int32} {off : Int} {tgt : Nat} (h : ¬ (x = y)) (hd : decode cc pc = .ok (.if_icmp .ne off, 3)) (ht : (pc : Int) + off = (tgt : Int)) (kt : mj_X g po own cc nL ret d tgt L st M o) : mj_X g po own cc nL ret d pc L (.int y :: .int x :: st) M o := by
  intro q hq p e s m args below meth c hx hb hml hr hlk hown hts hK hT H locs ls hP hD hS hl
  refine lv_icmp_ne hx hb hd ht (fun _ => ?_) (fun h2 => absurd h2 h)
  exact kt q hq p e s m args below meth c hx hb hml hr hlk hown hts hK hT H locs ls hP hD hS hl
theorem mj_icmp_neF {x y : Int32} {off : Int} {tgt : Nat} (h : x = y) (hd : decode cc pc = .ok (.if_icmp .ne off, 3)) (ht : (pc : Int) + off = (tgt : Int)) (kf : mj_X g po own cc nL ret d (pc + 3) L st M o) : mj_X g po own cc nL ret d pc L (.int y :: .int x :: st) M o := by
  intro q hq p e s m args below meth c hx hb hml hr hlk hown hts hK hT H locs ls hP hD hS hl
  refine lv_icmp_ne hx hb hd ht (fun h2 => absurd h h2) (fun _ => ?_)
  exact kf q hq p e s m args below meth c hx hb hml hr hlk hown hts hK hT H locs ls hP hD hS hl
theorem mj_if_ne {x : Int32} {off : Int} {tgt : Nat} {o1 o2 : Option R} (hd : decode cc pc = .ok (.ifCond .ne off, 3)) (ht : (pc : Int) + off = (tgt : Int)) (kf : x = 0 → mj_X g po own cc nL ret d (pc + 3) L st M o2) (kt : ¬ x = 0 → mj_X g po own cc nL ret d tgt L st M o1) : mj_X g po own cc nL ret d pc L (.int x :: st) M (if x = 0 then o2 else o1) := by
  intro q hq p e s m args below meth c hx hb hml hr hlk hown hts hK hT H locs ls hP hD hS hl
  refine lv_if_ne hx hb hd ht (fun h => ?_) (fun h => ?_)
  · rw [if_neg h] at hq; exact kt h q hq p e s m args below meth c hx hb hml hr hlk hown hts hK hT H locs ls hP hD hS hl
  · rw [if_pos h] at hq; exact kf h q hq p e s m args below meth c hx hb hml hr hlk hown hts hK hT H locs ls hP hD hS hl
theorem mj_if_neT {x : Int32} {off : Int} {tgt : Nat} (h : ¬ (x = 0)) (hd : decode cc pc = .ok (.ifCond .ne off, 3)) (ht : (pc : Int) + off = (tgt : Int)) (kt : mj_X g po own cc nL ret d tgt L st M o) : mj_X g po own cc nL ret d pc L (.int x :: st) M o := by
  intro q hq p e s m args below meth c hx hb hml hr hlk hown hts hK hT H locs ls hP hD hS hl
  refine lv_if_ne hx hb hd ht (fun _ => ?_) (fun h2 => absurd h2 h)
  exact kt q hq p e s m args below meth c hx hb hml hr hlk hown hts hK hT H locs ls hP hD hS hl
theorem mj_if_neF {x : Int32} {off : Int} {tgt : Nat} (h : x = 0) (hd : decode cc pc = .ok (.ifCond .ne off, 3)) (ht : (pc : Int) + off = (tgt : Int)) (kf : mj_X g po own cc nL ret d (pc + 3) L st M o) : mj_X g po own cc nL ret d pc L (.int x :: st) M o := by
  intro q hq p e s m args below meth c hx hb hml hr hlk hown hts hK hT H locs ls hP hD hS hl
  refine lv_if_ne hx hb hd ht (fun h2 => absurd h h2) (fun _ => ?_)
  exact kf q hq p e s m args below meth c hx hb hml hr hlk hown hts hK hT H locs ls hP hD hS hl
theorem mj_icmp_lt {x y : Int32} {off : Int} {tgt : Nat} {o1 o2 : Option R} (hd : decode cc pc = .ok (.if_icmp .lt off, 3)) (ht : (pc : Int) + off = (tgt : Int)) (kt : (x < y) → mj_X g po own cc nL ret d tgt L st M o1) (kf : ¬ (x < y) → mj_X g po own cc nL ret d (pc + 3) L st M o2) : mj_X g po own cc nL ret d pc L (.int y :: .int x :: st) M (if x < y then o1 else o2) := by
  intro q hq p e s m args below meth c hx hb hml hr hlk hown hts hK hT H locs ls hP hD hS hl
  refine lv_icmp_lt hx hb hd ht (fun h => ?_) (fun h => ?_)
  · rw [if_pos h] at hq; exact kt h q hq p e s m args below meth c hx hb hml hr hlk hown hts hK hT H locs ls hP hD hS hl
  · rw [if_neg h] at hq; exact kf h q hq p e s m args below meth c hx hb hml hr hlk hown hts hK hT H locs ls hP hD hS hl
theorem mj_icmp_ltT {x y : Int32} {off : Int} {tgt : Nat} (h : x < y) (hd : decode cc pc = .ok (.if_icmp .lt off, 3)) (ht : (pc : Int) + off = (tgt : Int)) (kt : mj_X g po own cc nL ret d tgt L st M o) : mj_X g po own cc nL ret d pc L (.int y :: .int x :: st) M o := by
  intro q hq p e s m args below meth c hx hb hml hr hlk hown hts hK hT H locs ls hP hD hS hl
  refine lv_icmp_lt hx hb hd ht (fun _ => ?_) (fun h2 => absurd h h2)
  exact kt q hq p e s m args below meth c hx hb hml hr hlk hown hts hK hT H locs ls hP hD hS hl
theorem mj_icmp_ltF {x y : Int32} {off : Int} {tgt : Nat} (h : ¬ (x < y)) (hd : decode cc pc = .ok (.if_icmp .lt off, 3)) (ht : (pc : Int) + off = (tgt : Int)) (kf : mj_X g po own cc nL ret d (pc + 3) L st M o) : mj_X g po own cc nL ret d pc L (.int y :: .int x :: st) M o := by
  intro q hq p e s m args below meth c hx hb hml hr hlk hown hts hK hT H locs ls hP hD hS hl
  refine lv_icmp_lt hx hb hd ht (fun h2 => absurd h2 h) (fun _ => ?_)
  exact kf q hq p e s m args below meth c hx hb hml hr hlk hown hts hK hT H locs ls hP hD hS hl
theorem mj_if_lt {x : Int32} {off : Int} {tgt : Nat} {o1 o2 : Option R} (hd : decode cc pc = .ok (.ifCond .lt off, 3)) (ht : (pc : Int) + off = (tgt : Int)) (kt : (x < 0) → mj_X g po own cc nL ret d tgt L st M o1) (kf : ¬ (x < 0) → mj_X g po own cc nL ret d (pc + 3) L st M o2) : mj_X g po own cc nL ret d pc L (.int x :: st) M (if x < 0 then o1 else o2) := by
  intro q hq p e s m args below meth c hx hb hml hr hlk hown hts hK hT H locs ls hP hD hS hl
  refine lv_if_lt hx hb hd ht (fun h => ?_) (fun h => ?_)
  · rw [if_pos h] at hq; exact kt h q hq p e s m args below meth c hx hb hml hr hlk hown hts hK hT H locs ls hP hD hS hl
  · rw [if_neg h] at hq; exact kf h q hq p e s m args below meth c hx hb hml hr hlk hown hts hK hT H locs ls hP hD hS hl
theorem mj_if_ltT {x : Int32} {off : Int} {tgt : Nat} (h : x < 0) (hd : decode cc pc = .ok (.ifCond .lt off, 3)) (ht : (pc : Int) + off = (tgt : Int)) (kt : mj_X g po own cc nL ret d tgt L st M o) : mj_X g po own cc nL ret d pc L (.int x :: st) M o := by
  intro q hq p e s m args below meth c hx hb hml hr hlk hown hts hK hT H locs ls hP hD hS hl
  refine lv_if_lt hx hb hd ht (fun _ => ?_) (fun h2 => absurd h h2)
  exact kt q hq p e s m args below meth c hx hb hml hr hlk hown hts hK hT H locs ls hP hD hS hl
theorem mj_if_ltF {x : Int32} {off : Int} {tgt : Nat} (h : ¬ (x < 0)) (hd : decode cc pc = .ok (.ifCond .lt off, 3)) (ht : (pc : Int) + off = (tgt : Int)) (kf : mj_X g po own cc nL ret d (pc + 3) L st M o) : mj_X g po own cc nL ret d pc L (.int x :: st) M o := by
  intro q hq p e s m args below meth c hx hb hml hr hlk hown hts hK hT H locs ls hP hD hS hl
  refine lv_if_lt hx hb hd ht (fun h2 => absurd h2 h) (fun _ => ?_)
  exact kf q hq p e s m args below meth c hx hb hml hr hlk hown hts hK hT H locs ls hP hD hS hl
theorem mj_icmp_ge {x y : Int32} {off : Int} {tgt : Nat} {o1 o2 : Option R} (hd : decode cc pc = .ok (.if_icmp .ge off, 3)) (ht : (pc : Int) + off = (tgt : Int)) (kt : (y ≤ x) → mj_X g po own cc nL ret d tgt L st M o1) (kf : ¬ (y ≤ x) → mj_X g po own cc nL ret d (pc + 3) L st M o2) : mj_X g po own cc nL ret d pc L (.int y :: .int x :: st) M (if y ≤ x then o1 else o2) := by
  intro q hq p e s m args below meth c hx hb hml hr hlk hown hts hK hT H locs ls hP hD hS hl
  refine lv_icmp_ge hx hb hd ht (fun h => ?_) (fun h => ?_)
  · rw [if_pos h] at hq; exact kt h q hq p e s m args below meth c hx hb hml hr hlk hown hts hK hT H locs ls hP hD hS hl
  · rw [if_neg h] at hq; exact kf h q hq p e s m args below meth c hx hb hml hr hlk hown hts hK hT H locs ls hP hD hS hl
theorem mj_icmp_geT {x y : Int32} {off : Int} {tgt : Nat} (h : y ≤ x) (hd : decode cc pc = .ok (.if_icmp .ge off, 3)) (ht : (pc : Int) + off = (tgt : Int)) (kt : mj_X g po own cc nL ret d tgt L st M o) : mj_X g po own cc nL ret d pc L (.int y :: .int x :: st) M o := by
  intro q hq p e s m args below meth c hx hb hml hr hlk hown hts hK hT H locs ls hP hD hS hl
  refine lv_icmp_ge hx hb hd ht (fun _ => ?_) (fun h2 => absurd h h2)
  exact kt q hq p e s m args below meth c hx hb hml hr hlk hown hts hK hT H locs ls hP hD hS hl
theorem mj_icmp_geF {x y : Int32} {off : Int} {tgt : Nat} (h : ¬ (y ≤ x)) (hd : decode cc pc = .ok (.if_icmp .ge off, 3)) (ht : (pc : Int) + off = (tgt : Int)) (kf : mj_X g po own cc nL ret d (pc + 3) L st M o) : mj_X g po own cc nL ret d pc L (.int y :: .int x :: st) M o := by
  intro q hq p e s m args below meth c hx hb hml hr hlk hown hts hK hT H locs ls hP hD hS hl
  refine lv_icmp_ge hx hb hd ht (fun h2 => absurd h2 h) (fun _ => ?_)
  exact kf q hq p e s m args below meth c hx hb hml hr hlk hown hts hK hT H locs ls hP hD hS hl
theorem mj_if_ge {x : Int32} {off : Int} {tgt : Nat} {o1 o2 : Option R} (hd : decode cc pc = .ok (.ifCond .ge off, 3)) (ht : (pc : Int) + off = (tgt : Int)) (kt : (0 ≤ x) → mj_X g po own cc nL ret d tgt L st M o1) (kf : ¬ (0 ≤ x) → mj_X g po own cc nL ret d (pc + 3) L st M o2) : mj_X g po own cc nL ret d pc L (.int x :: st) M (if 0 ≤ x then o1 else o2) := by
  intro q hq p e s m args below meth c hx hb hml hr hlk hown hts hK hT H locs ls hP hD hS hl
  refine lv_if_ge hx hb hd ht (fun h => ?_) (fun h => ?_)
  · rw [if_pos h] at hq; exact kt h q hq p e s m args below meth c hx hb hml hr hlk hown hts hK hT H locs ls hP hD hS hl
  · rw [if_neg h] at hq; exact kf h q hq p e s m args below meth c hx hb hml hr hlk hown hts hK hT H locs ls hP hD hS hl
theorem mj_if_geT {x : Int32} {off : Int} {tgt : Nat} (h : 0 ≤ x) (hd : decode cc pc = .ok (.ifCond .ge off, 3)) (ht : (pc : Int) + off = (tgt : Int)) (kt : mj_X g po own cc nL ret d tgt L st M o) : mj_X g po own cc nL ret d pc L (.int x :: st) M o := by
  intro q hq p e s m args below meth c hx hb hml hr hlk hown hts hK hT H locs ls hP hD hS hl
  refine lv_if_ge hx hb hd ht (fun _ => ?_) (fun h2 => absurd h h2)
  exact kt q hq p e s m args below meth c hx hb hml hr hlk hown hts hK hT H locs ls hP hD hS hl
theorem mj_if_geF {x : Int32} {off : Int} {tgt : Nat} (h : ¬ (0 ≤ x)) (hd : decode cc pc = .ok (.ifCond .ge off, 3)) (ht : (pc : Int) + off = (tgt : Int)) (kf : mj_X g po own cc nL ret d (pc + 3) L st M o) : mj_X g po own cc nL ret d pc L (.int x :: st) M o := by
  intro q hq p e s m args below meth c hx hb hml hr hlk hown hts hK hT H locs ls hP hD hS hl
  refine lv_if_ge hx hb hd ht (fun h2 => absurd h2 h) (fun _ => ?_)
  exact kf q hq p e s m args below meth c hx hb hml hr hlk hown hts hK hT H locs ls hP hD hS hl
theorem mj_icmp_gt {x y : Int32} {off : Int} {tgt : Nat} {o1 o2 : Option R} (hd : decode cc pc = .ok (.if_icmp .gt off, 3)) (ht : (pc : Int) + off = (tgt : Int)) (kt : (y < x) → mj_X g po own cc nL ret d tgt L st M o1) (kf : ¬ (y < x) → mj_X g po own cc nL ret d (pc + 3) L st M o2) : mj_X g po own cc nL ret d pc L (.int y :: .int x :: st) M (if y < x then o1 else o2) := by
  intro q hq p e s m args below meth c hx hb hml hr hlk hown hts hK hT H locs ls hP hD hS hl
  refine lv_icmp_gt hx hb hd ht (fun h => ?_) (fun h => ?_)
  · rw [if_pos h] at hq; exact kt h q hq p e s m args below meth c hx hb hml hr hlk hown hts hK hT H locs ls hP hD hS hl
  · rw [if_neg h] at hq; exact kf h q hq p e s m args below meth c hx hb hml hr hlk hown hts hK hT H locs ls hP hD hS hl
theorem mj_icmp_gtT {x y : Int32} {off : Int} {tgt : Nat} (h : y < x) (hd : decode cc pc = .ok (.if_icmp .gt off, 3)) (ht : (pc : Int) + off = (tgt : Int)) (kt : mj_X g po own cc nL ret d tgt L st M o) : mj_X g po own cc nL ret d pc L (.int y :: .int x :: st) M o := by
  intro q hq p e s m args below meth c hx hb hml hr hlk hown hts hK hT H locs ls hP hD hS hl
  refine lv_icmp_gt hx hb hd ht (fun _ => ?_) (fun h2 => absurd h h2)
  exact kt q hq p e s m args below meth c hx hb hml hr hlk hown hts hK hT H locs ls hP hD hS hl
theorem mj_icmp_gtF {x y : Int32} {off : Int} {tgt : Nat} (h : ¬ (y < x)) (hd : decode cc pc = .ok (.if_icmp .gt off, 3)) (ht : (pc : Int) + off = (tgt : Int)) (kf : mj_X g po own cc nL ret d (pc + 3) L st M o) : mj_X g po own cc nL ret d pc L (.int y :: .int x :: st) M o := by
  intro q hq p e s m args below meth c hx hb hml hr hlk hown hts hK hT H locs ls hP hD hS hl
  refine lv_icmp_gt hx hb hd ht (fun h2 => absurd h2 h) (fun _ => ?_)
  exact kf q hq p e s m args below meth c hx hb hml hr hlk hown hts hK hT H locs ls hP hD hS hl
theorem mj_if_gt {x : Int32} {off : Int} {tgt : Nat} {o1 o2 : Option R} (hd : decode cc pc = .ok (.ifCond .gt off, 3)) (ht : (pc : Int) + off = (tgt : Int)) (kt : (0 < x) → mj_X g po own cc nL ret d tgt L st M o1) (kf : ¬ (0 < x) → mj_X g po own cc nL ret d (pc + 3) L st M o2) : mj_X g po own cc nL ret d pc L (.int x :: st) M (if 0 < x then o1 else o2) := by
  intro q hq p e s m args below meth c hx hb hml hr hlk hown hts hK hT H locs ls hP hD hS hl
  refine lv_if_gt hx hb hd ht (fun h => ?_) (fun h => ?_)
  · rw [if_pos h] at hq; exact kt h q hq p e s m args below meth c hx hb hml hr hlk hown hts hK hT H locs ls hP hD hS hl
  · rw [if_neg h] at hq; exact kf h q hq p e s m args below meth c hx hb hml hr hlk hown hts hK hT H locs ls hP hD hS hl
theorem mj_if_gtT {x : Int32} {off : Int} {tgt : Nat} (h : 0 < x) (hd : decode cc pc = .ok (.ifCond .gt off, 3)) (ht : (pc : Int) + off = (tgt : Int)) (kt : mj_X g po own cc nL ret d tgt L st M o) : mj_X g po own cc nL ret d pc L (.int x :: st) M o := by
  intro q hq p e s m args below meth c hx hb hml hr hlk hown hts hK hT H locs ls hP hD hS hl
  refine lv_if_gt hx hb hd ht (fun _ => ?_) (fun h2 => absurd h h2)
  exact kt q hq p e s m args below meth c hx hb hml hr hlk hown hts hK hT H locs ls hP hD hS hl
theorem mj_if_gtF {x : Int32} {off : Int} {tgt : Nat} (h : ¬ (0 < x)) (hd : decode cc pc = .ok (.ifCond .gt off, 3)) (ht : (pc : Int) + off = (tgt : Int)) (kf : mj_X g po own cc nL ret d (pc + 3) L st M o) : mj_X g po own cc nL ret d pc L (.int x :: st) M o := by
  intro q hq p e s m args below meth c hx hb hml hr hlk hown hts hK hT H locs ls hP hD hS hl
  refine lv_if_gt hx hb hd ht (fun h2 => absurd h2 h) (fun _ => ?_)
  exact kf q hq p e s m args below meth c hx hb hml hr hlk hown hts hK hT H locs ls hP hD hS hl
theorem mj_icmp_le {x y : Int32} {off : Int} {tgt : Nat} {o1 o2 : Option R} (hd : decode cc pc = .ok (.if_icmp .le off, 3)) (ht : (pc : Int) + off = (tgt : Int)) (kt : (x ≤ y) → mj_X g po own cc nL ret d tgt L st M o1) (kf : ¬ (x ≤ y) → mj_X g po own cc nL ret d (pc + 3) L st M o2) : mj_X g po own cc nL ret d pc L (.int y :: .int x :: st) M (if x ≤ y then o1 else o2) := by
  intro q hq p e s m args below meth c hx hb hml hr hlk hown hts hK hT H locs ls hP hD hS hl
  refine lv_icmp_le hx hb hd ht (fun h => ?_) (fun h => ?_)
  · rw [if_pos h] at hq; exact kt h q hq p e s m args below meth c hx hb hml hr hlk hown hts hK hT H locs ls hP hD hS hl
  · rw [if_neg h] at hq; exact kf h q hq p e s m args below meth c hx hb hml hr hlk hown hts hK hT H locs ls hP hD hS hl
theorem mj_icmp_leT {x y : Int32} {off : Int} {tgt : Nat} (h : x ≤ y) (hd : decode cc pc = .ok (.if_icmp .le off, 3)) (ht : (pc : Int) + off = (tgt : Int)) (kt : mj_X g po own cc nL ret d tgt L st M o) : mj_X g po own cc nL ret d pc L (.int y :: .int x :: st) M o := by
  intro q hq p e s m args below meth c hx hb hml hr hlk hown hts hK hT H locs ls hP hD hS hl
  refine lv_icmp_le hx hb hd ht (fun _ => ?_) (fun h2 => absurd h h2)
  exact kt q hq p e s m args below meth c hx hb hml hr hlk hown hts hK hT H locs ls hP hD hS hl
theorem mj_icmp_leF {x y : Int32} {off : Int} {tgt : Nat} (h : ¬ (x ≤ y)) (hd : decode cc pc = .ok (.if_icmp .le off, 3)) (ht : (pc : Int) + off = (tgt : Int)) (kf : mj_X g po own cc nL ret d (pc + 3) L st M o) : mj_X g po own cc nL ret d pc L (.int y :: .int x :: st) M o := by
  intro q hq p e s m args below meth c hx hb hml hr hlk hown hts hK hT H locs ls hP hD hS hl
  refine lv_icmp_le hx hb hd ht (fun h2 => absurd h2 h) (fun _ => ?_)
  exact kf q hq p e s m args below meth c hx hb hml hr hlk hown hts hK hT H locs ls hP hD hS hl
theorem mj_if_le {x : Int32} {off : Int} {tgt : Nat} {o1 o2 : Option R} (hd : decode cc pc = .ok (.ifCond .le off, 3)) (ht : (pc : Int) + off = (tgt : Int)) (kt : (x ≤ 0) → mj_X g po own cc nL ret d tgt L st M o1) (kf : ¬ (x ≤ 0) → mj_X g po own cc nL ret d (pc + 3) L st M o2) : mj_X g po own cc nL ret d pc L (.int x :: st) M (if x ≤ 0 then o1 else o2) := by
  intro q hq p e s m args below meth c hx hb hml hr hlk hown hts hK hT H locs ls hP hD hS hl
  refine lv_if_le hx hb hd ht (fun h => ?_) (fun h => ?_)
  · rw [if_pos h] at hq; exact kt h q hq p e s m args below meth c hx hb hml hr hlk hown hts hK hT H locs ls hP hD hS hl
  · rw [if_neg h] at hq; exact kf h q hq p e s m args below meth c hx hb hml hr hlk hown hts hK hT H locs ls hP hD hS hl
theorem mj_if_leT {x : Int32} {off : Int} {tgt : Nat} (h : x ≤ 0) (hd : decode cc pc = .ok (.ifCond .le off, 3)) (ht : (pc : Int) + off = (tgt : Int)) (kt : mj_X g po own cc nL ret d tgt L st M o) : mj_X g po own cc nL ret d pc L (.int x :: st) M o := by
  intro q hq p e s m args below meth c hx hb hml hr hlk hown hts hK hT H locs ls hP hD hS hl
  refine lv_if_le hx hb hd ht (fun _ => ?_) (fun h2 => absurd h h2)
  exact kt q hq p e s m args below meth c hx hb hml hr hlk hown hts hK hT H locs ls hP hD hS hl
theorem mj_if_leF {x : Int32} {off : Int} {tgt : Nat} (h : ¬ (x ≤ 0)) (hd : decode cc pc = .ok (.ifCond .le off, 3)) (ht : (pc : Int) + off = (tgt : Int)) (kf : mj_X g po own cc nL ret d (pc + 3) L st M o) : mj_X g po own cc nL ret d pc L (.int x :: st) M o := by
  intro q hq p e s m args below meth c hx hb hml hr hlk hown hts hK hT H locs ls hP hD hS hl
  refine lv_if_le hx hb hd ht (fun h2 => absurd h2 h) (fun _ => ?_)
  exact kf q hq p e s m args below meth c hx hb hml hr hlk hown hts hK hT H locs ls hP hD hS hl
theorem mj_goto {off : Int} {tgt : Nat} (hd : decode cc pc = .ok (.goto off, 3)) (ht : (pc : Int) + off = (tgt : Int)) (k : mj_X g po own cc nL ret d tgt L st M o) : mj_X g po own cc nL ret d pc L st M o := by
  intro q hq p e s m args below meth c hx hb hml hr hlk hown hts hK hT H locs ls hP hD hS hl
  exact lv_goto hx hb hd ht (k q hq p e s m args below meth c hx hb hml hr hlk hown hts hK hT H locs ls hP hD hS hl)
theorem mj_none : mj_X g po own cc nL ret d pc L st M (none : Option R) := fun q hq => by cases hq
theorem mj_eq {o' : Option R} (h : o = o') (k : mj_X g po own cc nL ret d pc L st M o') : mj_X g po own cc nL ret d pc L st M o := h ▸ k
end RulesX
