/-! ===== cells out of the memory; the judgement X; its rules ===== -/
/-- launch; numbers of classes and slots; addresses of the cells; classes of arrays; where the new cells begin -/
abbrev mj_G : Type := Launch × va_G × (Nat → Nat) × (Nat → ClassId) × Nat
abbrev mj_l (g : mj_G) : Launch := g.1
abbrev mj_D (g : mj_G) : va_G := g.2.1
abbrev mj_d (g : mj_G) : Nat → Nat := g.2.2.1
abbrev mj_c (g : mj_G) : Nat → ClassId := g.2.2.2.1
def mj_A (g : mj_G) : Nat → Prop := fun q => g.2.2.2.2 ≤ q
/-- a reference in X is a cell's number: this is its address -/
def mj_v (ad : Nat → Nat) : Value → Value
  | .ref k => .ref (ad k)
  | .int x => .int x
  | .long x => .long x
  | .float x => .float x
  | .double x => .double x
  | .null => .null
  | .retAddr x => .retAddr x
def mj_p (ad : Nat → Nat) (q : Nat × Value) : Nat × Value := (q.1, mj_v ad q.2)
theorem mj_vcat (ad : Nat → Nat) (v : Value) : (mj_v ad v).category = v.category := by cases v <;> rfl
def mj_fv (ad : Nat → Nat) (f : Nat → Int32) (j : Nat) : Nat → Value
  | 0 => .int (f j)
  | 1 => .long (mj_cat (f j) (f (j + 1000)))
  | r + 2 => .ref (ad r)
def mj_ce (ad : Nat → Nat) (ca : ClassId) (f : Nat → Int32) : mj_S → va_E
  | .inl (.long, n) => .inl (ca, n, .inr (.inl (fun j => mj_cat (f j) (f (j + 1000)))))
  | .inl (_, n) => .inl (ca, n, .inl f)
  | .inr (ci, ks) => .inr (ci, ks.mapIdx (fun j kd => mj_fv ad f j kd))
def mj_w (g : mj_G) (M : mj_M) : va_W := mj_sh.mapIdx (fun c sp => (mj_d g c, mj_ce (mj_d g) (mj_c g c) (M c) sp))
def mj_to : mj_S → FieldType
  | .inl (ty, _) => ty
  | .inr _ => .int
def mj_ty (g : mj_G) : List (ClassId × FieldType) := mj_sh.mapIdx (fun c sp => (mj_c g c, mj_to sp))
theorem mj_w_at (g : mj_G) (M : mj_M) {b : Nat} {sp : mj_S} (h : mj_sh[b]? = some sp) : (mj_w g M)[b]? = some (mj_d g b, mj_ce (mj_d g) (mj_c g b) (M b) sp) := by
  simp [mj_w, List.getElem?_mapIdx, h]
theorem mj_ty_at (g : mj_G) {b : Nat} {sp : mj_S} (h : mj_sh[b]? = some sp) : (mj_ty g)[b]? = some (mj_c g b, mj_to sp) := by
  simp [mj_ty, List.getElem?_mapIdx, h]
theorem mj_w_set (g : mj_G) (M M' : mj_M) {b : Nat} {sp : mj_S} (h : mj_sh[b]? = some sp) (ho : ∀ c, c ≠ b → M' c = M c) : (mj_w g M).set b (mj_d g b, mj_ce (mj_d g) (mj_c g b) (M' b) sp) = mj_w g M' := by
  refine List.ext_getElem? fun i => ?_
  by_cases hi : i = b
  · subst hi
    rw [mj_w_at g M' h, List.getElem?_set_self']
    rw [mj_w_at g M h]
    rfl
  · rw [List.getElem?_set_ne (Ne.symm hi)]
    simp only [mj_w, List.getElem?_mapIdx, ho i hi]
theorem mj_up_ne {α : Type} (f : Nat → α) (k : Nat) (v : α) {j : Nat} (h : j ≠ k) : va_up f k v j = f j := if_neg h
theorem mj_up_eq {α : Type} (f : Nat → α) (k : Nat) (v : α) : va_up f k v k = v := if_pos rfl
theorem mj_u_ne (M : mj_M) {b k : Nat} {v : Int32} : ∀ c, c ≠ b → mj_u M b k v c = M c := fun c h => if_neg h
theorem mj_u_eq (M : mj_M) {b k : Nat} {v : Int32} : mj_u M b k v b = va_up (M b) k v := if_pos rfl
theorem mj_cat_eq (x : Int64) : mj_cat (mj_hi x) (mj_lo x) = x := by
  apply Int64.toBitVec_inj.mp
  show (x.toBitVec.extractLsb' 32 32 ++ x.toBitVec.extractLsb' 0 32 : BitVec 64) = x.toBitVec
  ext i hi
  rw [BitVec.getElem_append]
  by_cases h : i < 32
  · rw [dif_pos h, BitVec.getElem_extractLsb', Nat.zero_add, BitVec.getLsbD_eq_getElem]
  · rw [dif_neg h, BitVec.getElem_extractLsb', show 32 + (i - 32) = i by omega, BitVec.getLsbD_eq_getElem]
/-- what a field's kind says of the field, seen from X -/
def mj_fs (ad : Nat → Nat) (f : Nat → Int32) (ks : List Nat) : List Value := ks.mapIdx (fun j kd => mj_fv ad f j kd)
theorem mj_fs_at {ad : Nat → Nat} {f : Nat → Int32} {ks : List Nat} {k kd : Nat} (h : ks[k]? = some kd) : (mj_fs ad f ks)[k]? = some (mj_fv ad f k kd) := by
  simp [mj_fs, List.getElem?_mapIdx, h]
theorem mj_fs_set {ad : Nat → Nat} {f : Nat → Int32} {ks : List Nat} {k : Nat} {v : Int32} (h : ks[k]? = some 0) (hk : k < 1000) : (mj_fs ad f ks).set k (.int v) = mj_fs ad (va_up f k v) ks := by
  refine List.ext_getElem? fun i => ?_
  by_cases hi : i = k
  · subst hi
    rw [List.getElem?_set_self', mj_fs_at h, mj_fs_at h]
    simp [mj_fv, mj_up_eq]
  · rw [List.getElem?_set_ne (Ne.symm hi)]
    simp only [mj_fs, List.getElem?_mapIdx]
    cases hx : ks[i]? with
    | none => rfl
    | some kd =>
      have e1 : va_up f k v i = f i := mj_up_ne f k v hi
      have e2 : va_up f k v (i + 1000) = f (i + 1000) := mj_up_ne f k v (by omega)
      match kd with
      | 0 => simp [mj_fv, e1]
      | 1 => simp [mj_fv, e1, e2]
      | r + 2 => simp [mj_fv]
theorem mj_fs_setL {ad : Nat → Nat} {f : Nat → Int32} {ks : List Nat} {k : Nat} {v : Int64} (h : ks[k]? = some 1) (hl : ks.length ≤ 1000) : (mj_fs ad f ks).set k (.long v) = mj_fs ad (va_up (va_up f k (mj_hi v)) (k + 1000) (mj_lo v)) ks := by
  have hk : k < 1000 := by have := (List.getElem?_eq_some_iff.mp h).1; omega
  refine List.ext_getElem? fun i => ?_
  by_cases hi : i = k
  · subst hi
    rw [List.getElem?_set_self', mj_fs_at h, mj_fs_at h]
    have e1 : va_up (va_up f i (mj_hi v)) (i + 1000) (mj_lo v) i = mj_hi v := by rw [mj_up_ne _ _ _ (by omega), mj_up_eq]
    have e2 : va_up (va_up f i (mj_hi v)) (i + 1000) (mj_lo v) (i + 1000) = mj_lo v := mj_up_eq _ _ _
    simp [mj_fv, e1, e2, mj_cat_eq]
  · rw [List.getElem?_set_ne (Ne.symm hi)]
    simp only [mj_fs, List.getElem?_mapIdx]
    cases hx : ks[i]? with
    | none => rfl
    | some kd =>
      have hi2 : i < 1000 := by have := (List.getElem?_eq_some_iff.mp hx).1; omega
      have e1 : va_up (va_up f k (mj_hi v)) (k + 1000) (mj_lo v) i = f i := by rw [mj_up_ne _ _ _ (by omega), mj_up_ne _ _ _ hi]
      have e2 : va_up (va_up f k (mj_hi v)) (k + 1000) (mj_lo v) (i + 1000) = f (i + 1000) := by rw [mj_up_ne _ _ _ (by omega), mj_up_ne _ _ _ (by omega)]
      match kd with
      | 0 => simp [mj_fv, e1]
      | 1 => simp [mj_fv, e1, e2]
      | r + 2 => simp [mj_fv]
/-- all classes at once -/
theorem mj_in : ∀ (ci : Nat) (q : vw_C), mj_cl[ci]? = some q → ∀ w ∈ u_ws q.1 q.2.1 q.2.2, w ∈ mj_TT := by
  intro ci q h
  match ci, h with
  | 0, h => cases h; exact mj_i0
  | 1, h => cases h; exact mj_i1
  | 2, h => cases h; exact mj_i2
  | 3, h => cases h; exact mj_i3
  | 4, h => cases h; exact mj_i4
  | 5, h => cases h; exact mj_i5
  | 6, h => cases h; exact mj_i6
  | 7, h => cases h; exact mj_i7
  | 8, h => cases h; exact mj_i8
  | 9, h => cases h; exact mj_i9
  | 10, h => cases h; exact mj_i10
  | 11, h => cases h; exact mj_i11
  | 12, h => cases h; exact mj_i12
  | k + 13, h => cases h
theorem mj_tys : ∀ (ci : Nat) (q : vw_C), mj_cl[ci]? = some q → (∃ ty0 : Nat → FieldType, ∀ k, k < q.2.2 → parseFieldDescriptor (q.2.1 k).2.2.1 = some (ty0 k)) ∧ ∀ a, a < q.2.2 → ∀ b, b < q.2.2 → a ≠ b → (q.2.1 a).2.1 ≠ (q.2.1 b).2.1 := by
  intro ci q h
  match ci, h with
  | 0, h => cases h; exact ⟨⟨_, mj_y0⟩, mj_n0⟩
  | 1, h => cases h; exact ⟨⟨_, mj_y1⟩, mj_n1⟩
  | 2, h => cases h; exact ⟨⟨_, mj_y2⟩, mj_n2⟩
  | 3, h => cases h; exact ⟨⟨_, mj_y3⟩, mj_n3⟩
  | 4, h => cases h; exact ⟨⟨_, mj_y4⟩, mj_n4⟩
  | 5, h => cases h; exact ⟨⟨_, mj_y5⟩, mj_n5⟩
  | 6, h => cases h; exact ⟨⟨_, mj_y6⟩, mj_n6⟩
  | 7, h => cases h; exact ⟨⟨_, mj_y7⟩, mj_n7⟩
  | 8, h => cases h; exact ⟨⟨_, mj_y8⟩, mj_n8⟩
  | 9, h => cases h; exact ⟨⟨_, mj_y9⟩, mj_n9⟩
  | 10, h => cases h; exact ⟨⟨_, mj_y10⟩, mj_n10⟩
  | 11, h => cases h; exact ⟨⟨_, mj_y11⟩, mj_n11⟩
  | 12, h => cases h; exact ⟨⟨_, mj_y12⟩, mj_n12⟩
  | k + 13, h => cases h
/-- the static arrays at a state -/
def mj_ST (g : mj_G) (U : State) (H : Heap) : Prop := ∀ (i : Nat) (q : String × String × String × FieldType × List Int32), mj_st[i]? = some q →
  va_Z q.1 q.2.1 q.2.2.1 (.ref (mj_d g (200 + i))) (mj_A g) U H ∧ va_T q.2.2.2.1 (mj_d g (200 + i)) q.2.2.2.2.length (fun j => .int (q.2.2.2.2.getD j 0)) (mj_A g) U H
theorem mj_ST_moved {g : mj_G} {u U : State} {H : Heap} (hvm : u.vm.Alike U.vm) (h : mj_ST g u H) : mj_ST g U H := fun i q hi => ⟨va_Z.moved hvm (h i q hi).1, va_T.moved hvm (h i q hi).2⟩
theorem mj_ST_kept {g : mj_G} {U : State} {H H1 : Heap} (h : mj_ST g U H) (hq : ∀ a : Nat, a < H.size → ¬ mj_A g a → H1[a]? = H[a]?) : mj_ST g U H1 := fun i q hi => ⟨va_Z.kept (h i q hi).1 hq, va_T.kept (h i q hi).2 hq⟩
/-- the world: the heap holds the memory M -/
def mj_I (g : mj_G) (M : mj_M) (U : State) : Prop := va_P (mj_D g) mj_cl (mj_w g M) U.heap ∧ va_K (mj_D g) mj_cl (mj_ty g) U ∧ va_D (mj_A g) (mj_w g M) ∧ mj_ST g U U.heap
def mj_rm (d : Nat) : Room := { frames := d, cells := 0, slots := 0, locals := 60 * d }
/-- ends -/
def mj_qI (g : mj_G) (q : Int32 × mj_M) : Array Value → State → Outcome → State → Prop := va_Qi (fun r (_ : Unit) => r = q.1) (fun _ t => mj_I g q.2 t) (mj_A g)
def mj_qL (g : mj_G) (q : Int64 × mj_M) : Array Value → State → Outcome → State → Prop := va_Ql (fun r (_ : Unit) => r = q.1) (fun _ t => mj_I g q.2 t) (mj_A g)
def mj_qV (g : mj_G) (q : mj_M) : Array Value → State → Outcome → State → Prop := va_Qv (fun (_ : Unit) => True) (fun _ t => mj_I g q t) (mj_A g)
/-- a method's contract: where o says what it does, it does so -/
def mj_Mt {R : Type} (g : mj_G) (po : R → Array Value → State → Outcome → State → Prop) (d : Nat) (y : MethodName) (cc : ByteArray) (nL : Nat) (ret : Option FieldType) (as : List Value) (M : mj_M) (o : Option R) : Prop :=
  ∀ q, o = some q → Met (mj_l g) y (.code y cc nL ret :: mj_TT) (mj_rm d) (va_Pc (as.map (mj_v (mj_d g))) (mj_I g M)) (po q) 0 0 (mj_A g)
/-- within a method: at pc, with the locals L, the stack st and the memory M; where o says what is left to do, the machine does so -/
def mj_X {R : Type} (g : mj_G) (po : R → Array Value → State → Outcome → State → Prop) (own : String) (cc : ByteArray) (nL : Nat) (ret : Option FieldType) (d : Nat) (pc : Nat) (L : List (Nat × Value)) (st : List Value) (M : mj_M) (o : Option R) : Prop :=
  ∀ q, o = some q → ∀ (p : Program) (e : Env) (s : State) (m : MethodId) (args : Array Value) (below : List Frame) (meth : Method) (c : Code),
    p.tables.exec = Jvm.exec → c.code = cc → c.maxLocals = nL → meth.sig.returnType = ret → meth.locks = false → s.vm.findClass own = some m.cls → (∀ w ∈ mj_TT, w.before args s = true) → va_K (mj_D g) mj_cl (mj_ty g) s → mj_ST g s s.heap →
    ∀ (H : Heap) (locs : List Loc) (ls : Array Slot), va_P (mj_D g) mj_cl (mj_w g M) H → va_D (mj_A g) (mj_w g M) → va_S (mj_A g) s.heap H locs → lv_has ls nL (L.map (mj_p (mj_d g))) →
      W p (mj_l g) e (mj_rm (d + 1)) s m args below meth c H locs 0 0 (MQ below (po q) args s 0 0 (mj_A g)) (F0 m pc ls (st.map (mj_v (mj_d g))))
theorem mj_args (ad : Nat → Nat) (as : List Value) : ∀ i, lv_args i (as.map (mj_v ad)) = (lv_args i as).map (mj_p ad) := by
  induction as with
  | nil => intro i; rfl
  | cons v t ih => intro i; simp only [List.map_cons, lv_args, mj_vcat, ih]; rfl
theorem mj_slen (ad : Nat → Nat) (as : List Value) : (lg_sl (as.map (mj_v ad))).length = (lg_sl as).length := by
  induction as with
  | nil => rfl
  | cons v t ih =>
    simp only [lg_sl, List.map_cons, List.flatMap_cons, List.length_append, mj_vcat] at ih ⊢
    rw [ih]
    split <;> rfl
/-- a method's contract out of its body -/
theorem mj_met {R : Type} {g : mj_G} {po : R → Array Value → State → Outcome → State → Prop} {d : Nat} {y : MethodName} {cc : ByteArray} {nL : Nat} {ret : Option FieldType} {as : List Value} {M : mj_M} {o : Option R}
    (hy : plainName y.cls = true) (hn : (lg_sl as).length ≤ nL) (k : mj_X g po y.cls cc nL ret d 0 (lv_args 0 as) [] M o) : mj_Mt g po (d + 1) y cc nL ret as M o := by
  intro q hq
  refine Met.ofW (cc := cc) (maxL := nL) (ret := ret) hy rfl ?_
  intro p e s m args below meth c s₁ B hml hv
  obtain ⟨rfl, hP, hK, hD, hT⟩ := hv
  have hts := atoms_spec (ws := .code y cc nL ret :: mj_TT) B.pre
  have hown : s.vm.findClass y.cls = some m.cls := findClass_of_methodNamed B.named
  have hl := lv_entry (as.map (mj_v (mj_d g))) (n := nL) (by rw [mj_slen]; exact hn)
  rw [mj_args] at hl
  rw [lg_entry_eq]
  exact k q hq p e s m _ below meth c B.exec B.bytes hml B.returns B.notSynchronized hown (fun w h => hts w (List.mem_cons_of_mem _ h)) hK hT s.heap [] _ hP hD va_S.rf hl
