-- ===== end of PART A; then your names; then what follows =====
/-! THE CLAIM OUT OF ONE WALK OF THE LAW'S BODY. Your part is whole_start (and what it stands on); all else here is the same for every law, but numbers. -/
def R_law : String := "WinterTellersLaw"
def lw_P (b : Addr) (xs : List Int32) (args : Array Value) (s : State) : Prop := args = #[.ref b] ∧ s.IntsAt b xs ∧ xs.length ≤ 3072 ∧ (Jvm.Cond.and given_1 narrow_1).before args s = true
def lw_Q (_ : Array Value) (s : State) (o : Outcome) (t : State) : Prop := o = .returned (some (.int 1)) ∧ Framed s o t [] 601024 7293034
def lw_Z (below : List Frame) (a : Array Value) (s : State) : State → Prop := fun t => ∃ o, t.status = .running ∧ Ended t below o ∧ lw_Q a s o t
/-- the law's own end, with 1 on the stack, nothing written that was there before, its room as the claim has it -/
theorem lw_ret {p : Program} {l : Launch} {e : Env} {s : State} {m : MethodId} {below : List Frame} {meth : Method} {c : Code} {b : Nat} (hx : p.tables.exec = Jvm.exec) (hb : c.code = code) (hr : meth.sig.returnType = ret) (hlocks : meth.locks = false) {pc : Nat} {H : Heap} {ls : Array Slot} (hdg : decode code pc = .ok (.ireturn, 1)) : W p l e room_1 s m #[Value.ref b] below meth c H [] 601024 7293034 (lw_Z below #[Value.ref b] s) (F0 m pc ls [.int 1]) := by
  intro T hT X
  obtain ⟨fs, hret, hrun, hended, hW, hframe⟩ := X.leave (v := some (.int 1)) (hlocks := hlocks) (fun h => by rw [hr] at h; cases h)
  have hmeth' : T.vm.method? m = some meth := X.method'
  refine ⟨T.setFrames fs, ?_, .returned (some (.int 1)), hrun, hended, rfl, ⟨_, rfl⟩, hW, hframe⟩
  jvm_step X.here [X.here.top, hx, hb, hdg, hmeth', hr, ret, narrow_b1]
  (try refine ⟨rfl, ?_⟩); (try refine ⟨rfl, ?_⟩)
  first | (intro acts; rw [hret _ acts rfl rfl rfl]) | rw [hret _ _ rfl rfl rfl]
  exact Steps.refl _
/-- what holds at the law's entry: the machine, the code, the tables' words (any of lw_tbl by 'hts w (by decide +kernel)'), the script of L ints xs at the cell b, what the Statement gives of the start (any of its parts by flat_of_before) -/
def lw_At (p : Program) (s : State) (m : MethodId) (meth : Method) (c : Code) (b L : Nat) (xs : Nat → Int32) : Prop :=
  p.tables.exec = Jvm.exec ∧ c.code = code ∧ meth.sig.returnType = ret ∧ c.maxLocals = 7 ∧ s.vm.findClass R_law = some m.cls ∧ (∀ w ∈ lw_tbl, w.before #[Value.ref b] s = true) ∧ va_X b L xs s s.heap ∧ b < s.heap.size ∧ meth.locks = false ∧ (Jvm.Cond.and given_1 narrow_1).before #[Value.ref b] s = true

/-! ===== the judgement of the law's own frame ===== -/
def mj_Z (g : mj_G) (b Lz : Nat) (xs : Nat → Int32) (pc : Nat) (lv : List (Nat × Value)) (st : List Value) (M : mj_M) (ce sl : Nat) : Prop :=
  ∀ (p : Program) (e : Env) (s : State) (m : MethodId) (below : List Frame) (meth : Method) (c : Code), lw_At p s m meth c b Lz xs → g.2.2.2.2 = s.heap.size → va_K (mj_D g) mj_cl (mj_ty g) s → mj_ST g s s.heap → mj_EX g s →
    ∀ (H : Heap) (locs : List Loc) (ls : Array Slot), va_P (mj_D g) mj_cl (mj_w g M) H → va_D (mj_A g) (mj_w g M) → va_S (mj_A g) s.heap H locs → lv_has ls 7 lv →
      W p (mj_l g) e room_1 s m #[Value.ref b] below meth c H locs ce sl (lw_Z below #[Value.ref b] s) (F0 m pc ls st)
theorem mj_Zt {p : Program} {s : State} {m : MethodId} {meth : Method} {c : Code} {b L : Nat} {xs : Nat → Int32} (C : lw_At p s m meth c b L xs) : ∀ w ∈ mj_TT, w.before #[Value.ref b] s = true := fun w h => C.2.2.2.2.2.1 w (List.mem_filter.mp h).1
section RulesZ
variable {g : mj_G} {b Lz : Nat} {xs : Nat → Int32} {pc : Nat} {lv : List (Nat × Value)} {st : List Value} {M : mj_M} {ce sl : Nat}
theorem mz_iload {i j : Nat} {x : Int32} (hk : lv[j]? = some (i, .int x)) (hd : decode code pc = .ok (.iload i, 2)) (k : mj_Z g b Lz xs (pc + 2) lv (.int x :: st) M ce sl) : mj_Z g b Lz xs pc lv (st) M ce sl := by
  intro p e s m below meth c C hg hK hT hE H locs ls hP hD hS hl
  obtain ⟨hx, hb, hr, hml, hown, htl, hX, hbl, hlk, hgv⟩ := id C
  have hts := mj_Zt C
  have hbA : ¬ mj_A g b := by unfold mj_A; rw [hg]; exact Nat.not_le.mpr hbl
  exact lv_iload hx hb hd (lv_at hl j hk) (k p e s m below meth c C hg hK hT hE H locs ls hP hD hS hl)
theorem mz_iload_n {i : Fin 4} {j : Nat} {x : Int32} (hk : lv[j]? = some ((i : Nat), .int x)) (hd : decode code pc = .ok (.iload_n i, 1)) (k : mj_Z g b Lz xs (pc + 1) lv (.int x :: st) M ce sl) : mj_Z g b Lz xs pc lv (st) M ce sl := by
  intro p e s m below meth c C hg hK hT hE H locs ls hP hD hS hl
  obtain ⟨hx, hb, hr, hml, hown, htl, hX, hbl, hlk, hgv⟩ := id C
  have hts := mj_Zt C
  have hbA : ¬ mj_A g b := by unfold mj_A; rw [hg]; exact Nat.not_le.mpr hbl
  exact lv_iload_n hx hb hd rfl (lv_at hl j hk) (k p e s m below meth c C hg hK hT hE H locs ls hP hD hS hl)
theorem mz_aload {i j : Nat} {x : Nat} (hk : lv[j]? = some (i, .ref x)) (hd : decode code pc = .ok (.aload i, 2)) (k : mj_Z g b Lz xs (pc + 2) lv (.ref x :: st) M ce sl) : mj_Z g b Lz xs pc lv (st) M ce sl := by
  intro p e s m below meth c C hg hK hT hE H locs ls hP hD hS hl
  obtain ⟨hx, hb, hr, hml, hown, htl, hX, hbl, hlk, hgv⟩ := id C
  have hts := mj_Zt C
  have hbA : ¬ mj_A g b := by unfold mj_A; rw [hg]; exact Nat.not_le.mpr hbl
  exact lv_aload hx hb hd (lv_at hl j hk) (k p e s m below meth c C hg hK hT hE H locs ls hP hD hS hl)
theorem mz_aload_n {i : Fin 4} {j : Nat} {x : Nat} (hk : lv[j]? = some ((i : Nat), .ref x)) (hd : decode code pc = .ok (.aload_n i, 1)) (k : mj_Z g b Lz xs (pc + 1) lv (.ref x :: st) M ce sl) : mj_Z g b Lz xs pc lv (st) M ce sl := by
  intro p e s m below meth c C hg hK hT hE H locs ls hP hD hS hl
  obtain ⟨hx, hb, hr, hml, hown, htl, hX, hbl, hlk, hgv⟩ := id C
  have hts := mj_Zt C
  have hbA : ¬ mj_A g b := by unfold mj_A; rw [hg]; exact Nat.not_le.mpr hbl
  exact lv_aload_n hx hb hd rfl (lv_at hl j hk) (k p e s m below meth c C hg hK hT hE H locs ls hP hD hS hl)
theorem mz_iconst {n : Int} {v : Int32} (hv : Int32.ofInt n = v) (hd : decode code pc = .ok (.iconst n, 1)) (k : mj_Z g b Lz xs (pc + 1) lv (.int v :: st) M ce sl) : mj_Z g b Lz xs pc lv (st) M ce sl := by
  intro p e s m below meth c C hg hK hT hE H locs ls hP hD hS hl
  obtain ⟨hx, hb, hr, hml, hown, htl, hX, hbl, hlk, hgv⟩ := id C
  have hts := mj_Zt C
  have hbA : ¬ mj_A g b := by unfold mj_A; rw [hg]; exact Nat.not_le.mpr hbl
  exact lv_iconst hx hb hd hv (k p e s m below meth c C hg hK hT hE H locs ls hP hD hS hl)
theorem mz_bipush {n : Int} {v : Int32} (hv : (Int8.ofInt n).toInt32 = v) (hd : decode code pc = .ok (.bipush n, 2)) (k : mj_Z g b Lz xs (pc + 2) lv (.int v :: st) M ce sl) : mj_Z g b Lz xs pc lv (st) M ce sl := by
  intro p e s m below meth c C hg hK hT hE H locs ls hP hD hS hl
  obtain ⟨hx, hb, hr, hml, hown, htl, hX, hbl, hlk, hgv⟩ := id C
  have hts := mj_Zt C
  have hbA : ¬ mj_A g b := by unfold mj_A; rw [hg]; exact Nat.not_le.mpr hbl
  exact lv_bipush hx hb hd hv (k p e s m below meth c C hg hK hT hE H locs ls hP hD hS hl)
theorem mz_iadd {x y : Int32} (hd : decode code pc = .ok (.iadd, 1)) (k : mj_Z g b Lz xs (pc + 1) lv (.int (x + y) :: st) M ce sl) : mj_Z g b Lz xs pc lv (.int y :: .int x :: st) M ce sl := by
  intro p e s m below meth c C hg hK hT hE H locs ls hP hD hS hl
  obtain ⟨hx, hb, hr, hml, hown, htl, hX, hbl, hlk, hgv⟩ := id C
  have hts := mj_Zt C
  have hbA : ¬ mj_A g b := by unfold mj_A; rw [hg]; exact Nat.not_le.mpr hbl
  exact lv_iadd hx hb hd (k p e s m below meth c C hg hK hT hE H locs ls hP hD hS hl)
theorem mz_isub {x y : Int32} (hd : decode code pc = .ok (.isub, 1)) (k : mj_Z g b Lz xs (pc + 1) lv (.int (x - y) :: st) M ce sl) : mj_Z g b Lz xs pc lv (.int y :: .int x :: st) M ce sl := by
  intro p e s m below meth c C hg hK hT hE H locs ls hP hD hS hl
  obtain ⟨hx, hb, hr, hml, hown, htl, hX, hbl, hlk, hgv⟩ := id C
  have hts := mj_Zt C
  have hbA : ¬ mj_A g b := by unfold mj_A; rw [hg]; exact Nat.not_le.mpr hbl
  exact lv_isub hx hb hd (k p e s m below meth c C hg hK hT hE H locs ls hP hD hS hl)
theorem mz_iand {x y : Int32} (hd : decode code pc = .ok (.iand, 1)) (k : mj_Z g b Lz xs (pc + 1) lv (.int (x &&& y) :: st) M ce sl) : mj_Z g b Lz xs pc lv (.int y :: .int x :: st) M ce sl := by
  intro p e s m below meth c C hg hK hT hE H locs ls hP hD hS hl
  obtain ⟨hx, hb, hr, hml, hown, htl, hX, hbl, hlk, hgv⟩ := id C
  have hts := mj_Zt C
  have hbA : ¬ mj_A g b := by unfold mj_A; rw [hg]; exact Nat.not_le.mpr hbl
  exact lv_iand hx hb hd (k p e s m below meth c C hg hK hT hE H locs ls hP hD hS hl)
theorem mz_land {x y : Int64} (hd : decode code pc = .ok (.land, 1)) (k : mj_Z g b Lz xs (pc + 1) lv (.long (x &&& y) :: st) M ce sl) : mj_Z g b Lz xs pc lv (.long y :: .long x :: st) M ce sl := by
  intro p e s m below meth c C hg hK hT hE H locs ls hP hD hS hl
  obtain ⟨hx, hb, hr, hml, hown, htl, hX, hbl, hlk, hgv⟩ := id C
  have hts := mj_Zt C
  have hbA : ¬ mj_A g b := by unfold mj_A; rw [hg]; exact Nat.not_le.mpr hbl
  exact lv_land hx hb hd (k p e s m below meth c C hg hK hT hE H locs ls hP hD hS hl)
theorem mz_lor {x y : Int64} (hd : decode code pc = .ok (.lor, 1)) (k : mj_Z g b Lz xs (pc + 1) lv (.long (x ||| y) :: st) M ce sl) : mj_Z g b Lz xs pc lv (.long y :: .long x :: st) M ce sl := by
  intro p e s m below meth c C hg hK hT hE H locs ls hP hD hS hl
  obtain ⟨hx, hb, hr, hml, hown, htl, hX, hbl, hlk, hgv⟩ := id C
  have hts := mj_Zt C
  have hbA : ¬ mj_A g b := by unfold mj_A; rw [hg]; exact Nat.not_le.mpr hbl
  exact lv_lor hx hb hd (k p e s m below meth c C hg hK hT hE H locs ls hP hD hS hl)
theorem mz_i2l {x : Int32} (hd : decode code pc = .ok (.i2l, 1)) (k : mj_Z g b Lz xs (pc + 1) lv (.long x.toInt64 :: st) M ce sl) : mj_Z g b Lz xs pc lv (.int x :: st) M ce sl := by
  intro p e s m below meth c C hg hK hT hE H locs ls hP hD hS hl
  obtain ⟨hx, hb, hr, hml, hown, htl, hX, hbl, hlk, hgv⟩ := id C
  have hts := mj_Zt C
  have hbA : ¬ mj_A g b := by unfold mj_A; rw [hg]; exact Nat.not_le.mpr hbl
  exact lv_i2l hx hb hd rfl (k p e s m below meth c C hg hK hT hE H locs ls hP hD hS hl)
theorem mz_lcmp {x y : Int64} (hd : decode code pc = .ok (.lcmp, 1)) (k : mj_Z g b Lz xs (pc + 1) lv (.int (lg_cmp x y) :: st) M ce sl) : mj_Z g b Lz xs pc lv (.long y :: .long x :: st) M ce sl := by
  intro p e s m below meth c C hg hK hT hE H locs ls hP hD hS hl
  obtain ⟨hx, hb, hr, hml, hown, htl, hX, hbl, hlk, hgv⟩ := id C
  have hts := mj_Zt C
  have hbA : ¬ mj_A g b := by unfold mj_A; rw [hg]; exact Nat.not_le.mpr hbl
  exact W.lcmp hx hb hd (k p e s m below meth c C hg hK hT hE H locs ls hP hD hS hl)
theorem mz_sld {i : Int32} (hin : vp_in i Lz) (hd : decode code pc = .ok (.iaload, 1)) (k : mj_Z g b Lz xs (pc + 1) lv (.int (xs i.toNatClampNeg) :: st) M ce sl) : mj_Z g b Lz xs pc lv (.int i :: .ref b :: st) M ce sl := by
  intro p e s m below meth c C hg hK hT hE H locs ls hP hD hS hl
  obtain ⟨hx, hb, hr, hml, hown, htl, hX, hbl, hlk, hgv⟩ := id C
  have hts := mj_Zt C
  have hbA : ¬ mj_A g b := by unfold mj_A; rw [hg]; exact Nat.not_le.mpr hbl
  exact va_sld hx hb hX hbl hbA hS hin hd (k p e s m below meth c C hg hK hT hE H locs ls hP hD hS hl)
theorem mz_slen (hd : decode code pc = .ok (.arraylength, 1)) (k : mj_Z g b Lz xs (pc + 1) lv (.int (Int32.ofNat Lz) :: st) M ce sl) : mj_Z g b Lz xs pc lv (.ref b :: st) M ce sl := by
  intro p e s m below meth c C hg hK hT hE H locs ls hP hD hS hl
  obtain ⟨hx, hb, hr, hml, hown, htl, hX, hbl, hlk, hgv⟩ := id C
  have hts := mj_Zt C
  have hbA : ¬ mj_A g b := by unfold mj_A; rw [hg]; exact Nat.not_le.mpr hbl
  exact va_slen hx hb hX hbl hbA hS hd (k p e s m below meth c C hg hK hT hE H locs ls hP hD hS hl)
theorem mz_lald {i : Int32} (hin : i = 0) (hd : decode code pc = .ok (.laload, 1)) (k : mj_Z g b Lz xs (pc + 1) lv (.long (mj_cat (M 73 0) (M 73 1000)) :: st) M ce sl) : mj_Z g b Lz xs pc lv (.int i :: .ref (mj_d g 73) :: st) M ce sl := by
  intro p e s m below meth c C hg hK hT hE H locs ls hP hD hS hl
  obtain ⟨hx, hb, hr, hml, hown, htl, hX, hbl, hlk, hgv⟩ := id C
  have hts := mj_Zt C
  have hbA : ¬ mj_A g b := by unfold mj_A; rw [hg]; exact Nat.not_le.mpr hbl
  subst hin
  exact va_lald hx hb hK hP 73 73 (mj_w_at g M sh_73) (mj_ty_at g sh_73) (by unfold vp_in; decide) hd (k p e s m below meth c C hg hK hT hE H locs ls hP hD hS hl)
theorem mz_ldc2 {i : Nat} {v : Int64} (hc : Cond.constantLong "WinterTellersLaw" i v ∈ mj_TT) (hd : decode code pc = .ok (.ldc2_w i, 3)) (k : mj_Z g b Lz xs (pc + 3) lv (.long v :: st) M ce sl) : mj_Z g b Lz xs pc lv st M ce sl := by
  intro p e s m below meth c C hg hK hT hE H locs ls hP hD hS hl
  obtain ⟨hx, hb, hr, hml, hown, htl, hX, hbl, hlk, hgv⟩ := id C
  have hts := mj_Zt C
  have hbA : ¬ mj_A g b := by unfold mj_A; rw [hg]; exact Nat.not_le.mpr hbl
  exact lv_ldc2 hx hb hown (hts _ hc) hd (k p e s m below meth c C hg hK hT hE H locs ls hP hD hS hl)
theorem mz_lshl {x v : Int64} {y : Int32} (hv : x <<< (y.toInt64 &&& 63) = v) (hd : decode code pc = .ok (.lshl, 1)) (k : mj_Z g b Lz xs (pc + 1) lv (.long v :: st) M ce sl) : mj_Z g b Lz xs pc lv (.int y :: .long x :: st) M ce sl := by
  intro p e s m below meth c C hg hK hT hE H locs ls hP hD hS hl
  obtain ⟨hx, hb, hr, hml, hown, htl, hX, hbl, hlk, hgv⟩ := id C
  have hts := mj_Zt C
  have hbA : ¬ mj_A g b := by unfold mj_A; rw [hg]; exact Nat.not_le.mpr hbl
  exact lv_lshl hx hb hd hv (k p e s m below meth c C hg hK hT hE H locs ls hP hD hS hl)
theorem mz_istore {i : Nat} {x : Int32} {lv' : List (Nat × Value)} (hn : i < 7) (h : (i, Value.int x) :: lv.filter (fun q => !(q.1 == i) && !(q.1 + 1 == i && q.2.category == 2)) = lv') (hd : decode code pc = .ok (.istore i, 2)) (k : mj_Z g b Lz xs (pc + 2) lv' st M ce sl) : mj_Z g b Lz xs pc lv (.int x :: st) M ce sl := by
  intro p e s m below meth c C hg hK hT hE H locs ls hP hD hS hl
  obtain ⟨hx, hb, hr, hml, hown, htl, hX, hbl, hlk, hgv⟩ := id C
  have hts := mj_Zt C
  have hbA : ¬ mj_A g b := by unfold mj_A; rw [hg]; exact Nat.not_le.mpr hbl
  exact lv_istore hx hb hd hl hn h (fun ls hl => k p e s m below meth c C hg hK hT hE H locs ls hP hD hS hl)
theorem mz_iinc {i j : Nat} {n : Int} {x v : Int32} {lv' : List (Nat × Value)} (hk : lv[j]? = some (i, .int x)) (hv : x + Int32.ofInt n = v) (hn : i < 7) (h : (i, Value.int v) :: lv.filter (fun q => !(q.1 == i) && !(q.1 + 1 == i && q.2.category == 2)) = lv') (hd : decode code pc = .ok (.iinc i n, 3)) (k : mj_Z g b Lz xs (pc + 3) lv' st M ce sl) : mj_Z g b Lz xs pc lv st M ce sl := by
  intro p e s m below meth c C hg hK hT hE H locs ls hP hD hS hl
  obtain ⟨hx, hb, hr, hml, hown, htl, hX, hbl, hlk, hgv⟩ := id C
  have hts := mj_Zt C
  have hbA : ¬ mj_A g b := by unfold mj_A; rw [hg]; exact Nat.not_le.mpr hbl
  exact lv_iinc hx hb hd hl hk hv hn h (fun ls hl => k p e s m below meth c C hg hK hT hE H locs ls hP hD hS hl)
theorem mz_goto {off : Int} {tgt : Nat} (hd : decode code pc = .ok (.goto off, 3)) (ht : (pc : Int) + off = (tgt : Int)) (k : mj_Z g b Lz xs tgt lv st M ce sl) : mj_Z g b Lz xs pc lv st M ce sl := by
  intro p e s m below meth c C hg hK hT hE H locs ls hP hD hS hl
  obtain ⟨hx, hb, hr, hml, hown, htl, hX, hbl, hlk, hgv⟩ := id C
  have hts := mj_Zt C
  have hbA : ¬ mj_A g b := by unfold mj_A; rw [hg]; exact Nat.not_le.mpr hbl
  exact lv_goto hx hb hd ht (k p e s m below meth c C hg hK hT hE H locs ls hP hD hS hl)
theorem mz_icmp_eq {x y : Int32} {off : Int} {tgt : Nat} (hd : decode code pc = .ok (.if_icmp .eq off, 3)) (ht : (pc : Int) + off = (tgt : Int)) (kt : x = y → mj_Z g b Lz xs tgt lv st M ce sl) (kf : ¬ x = y → mj_Z g b Lz xs (pc + 3) lv st M ce sl) : mj_Z g b Lz xs pc lv (.int y :: .int x :: st) M ce sl := by
  intro p e s m below meth c C hg hK hT hE H locs ls hP hD hS hl
  obtain ⟨hx, hb, hr, hml, hown, htl, hX, hbl, hlk, hgv⟩ := id C
  have hts := mj_Zt C
  have hbA : ¬ mj_A g b := by unfold mj_A; rw [hg]; exact Nat.not_le.mpr hbl
  exact lv_icmp_eq hx hb hd ht (fun h => kt h p e s m below meth c C hg hK hT hE H locs ls hP hD hS hl) (fun h => kf h p e s m below meth c C hg hK hT hE H locs ls hP hD hS hl)
theorem mz_icmp_gt {x y : Int32} {off : Int} {tgt : Nat} (hd : decode code pc = .ok (.if_icmp .gt off, 3)) (ht : (pc : Int) + off = (tgt : Int)) (kt : y < x → mj_Z g b Lz xs tgt lv st M ce sl) (kf : ¬ y < x → mj_Z g b Lz xs (pc + 3) lv st M ce sl) : mj_Z g b Lz xs pc lv (.int y :: .int x :: st) M ce sl := by
  intro p e s m below meth c C hg hK hT hE H locs ls hP hD hS hl
  obtain ⟨hx, hb, hr, hml, hown, htl, hX, hbl, hlk, hgv⟩ := id C
  have hts := mj_Zt C
  have hbA : ¬ mj_A g b := by unfold mj_A; rw [hg]; exact Nat.not_le.mpr hbl
  exact lv_icmp_gt hx hb hd ht (fun h => kt h p e s m below meth c C hg hK hT hE H locs ls hP hD hS hl) (fun h => kf h p e s m below meth c C hg hK hT hE H locs ls hP hD hS hl)
theorem mz_if_eq {x : Int32} {off : Int} {tgt : Nat} (hd : decode code pc = .ok (.ifCond .eq off, 3)) (ht : (pc : Int) + off = (tgt : Int)) (kt : x = 0 → mj_Z g b Lz xs tgt lv st M ce sl) (kf : ¬ x = 0 → mj_Z g b Lz xs (pc + 3) lv st M ce sl) : mj_Z g b Lz xs pc lv (.int x :: st) M ce sl := by
  intro p e s m below meth c C hg hK hT hE H locs ls hP hD hS hl
  obtain ⟨hx, hb, hr, hml, hown, htl, hX, hbl, hlk, hgv⟩ := id C
  have hts := mj_Zt C
  have hbA : ¬ mj_A g b := by unfold mj_A; rw [hg]; exact Nat.not_le.mpr hbl
  exact lv_if_eq hx hb hd ht (fun h => kt h p e s m below meth c C hg hK hT hE H locs ls hP hD hS hl) (fun h => kf h p e s m below meth c C hg hK hT hE H locs ls hP hD hS hl)
theorem mz_if_ne {x : Int32} {off : Int} {tgt : Nat} (hd : decode code pc = .ok (.ifCond .ne off, 3)) (ht : (pc : Int) + off = (tgt : Int)) (kt : x = 0 → mj_Z g b Lz xs (pc + 3) lv st M ce sl) (kf : ¬ x = 0 → mj_Z g b Lz xs tgt lv st M ce sl) : mj_Z g b Lz xs pc lv (.int x :: st) M ce sl := by
  intro p e s m below meth c C hg hK hT hE H locs ls hP hD hS hl
  obtain ⟨hx, hb, hr, hml, hown, htl, hX, hbl, hlk, hgv⟩ := id C
  have hts := mj_Zt C
  have hbA : ¬ mj_A g b := by unfold mj_A; rw [hg]; exact Nat.not_le.mpr hbl
  exact lv_if_ne hx hb hd ht (fun h => kf h p e s m below meth c C hg hK hT hE H locs ls hP hD hS hl) (fun h => kt h p e s m below meth c C hg hK hT hE H locs ls hP hD hS hl)
theorem mz_pick {lv' : List (Nat × Value)} (ks : List Nat) (h : lv_pick lv ks = lv') (k : mj_Z g b Lz xs pc lv' st M ce sl) : mj_Z g b Lz xs pc lv st M ce sl := by
  intro p e s m below meth c C hg hK hT hE H locs ls hP hD hS hl
  obtain ⟨hx, hb, hr, hml, hown, htl, hX, hbl, hlk, hgv⟩ := id C
  have hts := mj_Zt C
  have hbA : ¬ mj_A g b := by unfold mj_A; rw [hg]; exact Nat.not_le.mpr hbl
  exact k p e s m below meth c C hg hK hT hE H locs ls hP hD hS (lv_sub hl ks h)
theorem mz_tswK {dflt lo hi : Int} {offs : Array Int} {len : Nat} {x k : Int32} {off : Int} {tgt : Nat} (h : x = k) (hd : decode code pc = .ok (.tableswitch dflt lo hi offs, len)) (h1 : ¬ k.toInt < lo) (h2 : ¬ hi < k.toInt) (ho : offs[(k.toInt - lo).toNat]? = some off) (ht : (pc : Int) + off = (tgt : Int)) (kk : mj_Z g b Lz xs tgt lv st M ce sl) : mj_Z g b Lz xs pc lv (.int x :: st) M ce sl := by
  intro p e s m below meth c C hg hK hT hE H locs ls hP hD hS hl
  obtain ⟨hx, hb, hr, hml, hown, htl, hX, hbl, hlk, hgv⟩ := id C
  have hts := mj_Zt C
  have hbA : ¬ mj_A g b := by unfold mj_A; rw [hg]; exact Nat.not_le.mpr hbl
  subst h
  exact lv_tableIn hx hb hd h1 h2 ho ht (kk p e s m below meth c C hg hK hT hE H locs ls hP hD hS hl)
theorem mz_tswD {dflt lo hi : Int} {offs : Array Int} {len : Nat} {x : Int32} {tgt : Nat} (keys : List Int) (hk : ∀ k ∈ keys, x.toInt ≠ k) (hd : decode code pc = .ok (.tableswitch dflt lo hi offs, len)) (hsz : lo + (offs.size : Int) = hi + 1) (hall : (List.range offs.size).all (fun j => keys.contains (lo + (j : Int))) = true) (ht : (pc : Int) + dflt = (tgt : Int)) (kk : mj_Z g b Lz xs tgt lv st M ce sl) : mj_Z g b Lz xs pc lv (.int x :: st) M ce sl := by
  intro p e s m below meth c C hg hK hT hE H locs ls hP hD hS hl
  obtain ⟨hx, hb, hr, hml, hown, htl, hX, hbl, hlk, hgv⟩ := id C
  have hts := mj_Zt C
  have hbA : ¬ mj_A g b := by unfold mj_A; rw [hg]; exact Nat.not_le.mpr hbl
  by_cases h1 : x.toInt < lo
  · exact lv_tableOut hx hb hd (Or.inl h1) ht (kk p e s m below meth c C hg hK hT hE H locs ls hP hD hS hl)
  · by_cases h2 : hi < x.toInt
    · exact lv_tableOut hx hb hd (Or.inr h2) ht (kk p e s m below meth c C hg hK hT hE H locs ls hP hD hS hl)
    · have hj : (x.toInt - lo).toNat < offs.size := by omega
      have h3 := List.all_eq_true.mp hall _ (List.mem_range.mpr hj)
      have h4 : lo + (((x.toInt - lo).toNat : Nat) : Int) = x.toInt := by omega
      rw [h4] at h3
      exact absurd rfl (hk _ (List.contains_iff_mem.mp h3))
theorem mz_widen {k n : Nat} (h1 : ce ≤ k) (h2 : sl ≤ n) (kk : mj_Z g b Lz xs pc lv st M k n) : mj_Z g b Lz xs pc lv st M ce sl := by
  intro p e s m below meth c C hg hK hT hE H locs ls hP hD hS hl
  obtain ⟨hx, hb, hr, hml, hown, htl, hX, hbl, hlk, hgv⟩ := id C
  have hts := mj_Zt C
  have hbA : ¬ mj_A g b := by unfold mj_A; rw [hg]; exact Nat.not_le.mpr hbl
  exact W.widen h1 h2 (kk p e s m below meth c C hg hK hT hE H locs ls hP hD hS hl)
theorem mz_ret (h1 : ce ≤ 601024) (h2 : sl ≤ 7293034) (hd : decode code pc = .ok (.ireturn, 1)) : mj_Z g b Lz xs pc lv [.int 1] M ce sl := by
  intro p e s m below meth c C hg hK hT hE H locs ls hP hD hS hl
  obtain ⟨hx, hb, hr, hml, hown, htl, hX, hbl, hlk, hgv⟩ := id C
  have hts := mj_Zt C
  have hbA : ¬ mj_A g b := by unfold mj_A; rw [hg]; exact Nat.not_le.mpr hbl
  refine va_forget (fun z hz => ?_) ?_
  · have := hS.2.2 z hz; unfold mj_A at this; rw [hg] at this; exact this
  · exact W.widen h1 h2 (lw_ret hx hb hr hlk hd)
theorem mz_callI {y : MethodName} {bytes : ByteArray} {maxL n idx : Nat} {rt : Option FieldType} {bo ci N : Nat} {Cn : String} {T : u_T} {ks : List Nat} {As : List Value} {o1 : Option (Int32 × mj_M)} {q : Int32 × mj_M} (hs : mj_sh[bo]? = some (.inr (ci, ks))) (hc : mj_cl[ci]? = some (Cn, T, N)) (hE1 : mj_EV Cn y bytes maxL rt n) (hl0 : Cond.methodLink "WinterTellersLaw" idx y ∈ mj_TT) (hn : As.length = n) (hav : As.map (mj_v (mj_d g)) = As) (hw : (st.map fun v => v.category).sum ≤ 8) (hce : ce ≤ 601024) (hsl : sl ≤ 7293034) (hM : mj_Mt g (mj_qI g) 1000 y bytes maxL rt (.ref bo :: As) M o1) (ho : o1 = some q) (hd : decode code pc = .ok (.invokevirtual idx, 3)) (kk : mj_Z g b Lz xs (pc + 3) lv (.int q.1 :: st) q.2 ce sl) : mj_Z g b Lz xs pc lv (As.reverse ++ .ref (mj_d g bo) :: st) M ce sl := by
  intro p e s m below meth c C hg hK hT hE H locs ls hP hD hS hl
  obtain ⟨hx, hb, hr, hml, hown, htl, hX, hbl, hlk, hgv⟩ := id C
  have hts := mj_Zt C
  have hbA : ¬ mj_A g b := by unfold mj_A; rw [hg]; exact Nat.not_le.mpr hbl
  obtain ⟨h1, h2, h3, h4, h5, h6⟩ := hE1
  refine va_calli (va_runV (C := Cn) (As := As) (rest := st) ⟨hx, hb, hml, hown, hts⟩ (hM q ho) ⟨⟨rfl, rfl, by decide, ?_, mj_good hts h1, List.mem_cons_self, hts _ h1, hts _ h2, ⟨h5.1, h5.2.1⟩, fun sig h => mj_pl h5.2.2 h, hts _ hl0⟩, hts _ h3, hts _ h4⟩ ⟨mj_blind, va_recv hK hP hc (mj_w_at g M hs), fun U hU hW => ⟨?_, mj_I_at (args := #[]) hK hT hP hD hS hU hW⟩⟩ rfl hn hl.1 rfl (lv_room hw) hd ⟨hce, hsl⟩) hS (fun z _ h => h) (fun z h => h) (fun r u t H1 locs1 ht hvm hw2 hB hz1 hk1 hS1 => ?_)
  · show 8 + (maxL + 11) + 60 * 1000 ≤ 84000
    omega
  · show _ = ((.ref bo :: As).map (mj_v (mj_d g))).toArray
    rw [List.map_cons, hav]; rfl
  · subst hw2
    obtain ⟨hP1, hK1, hD1, hT1⟩ := hB
    rw [ht] at hP1
    exact kk p e s m below meth c C hg hK hT hE H1 locs1 ls hP1 hD1 hS1 hl
theorem mz_callV {y : MethodName} {bytes : ByteArray} {maxL n idx : Nat} {rt : Option FieldType} {bo ci N : Nat} {Cn : String} {T : u_T} {ks : List Nat} {As : List Value} {o1 : Option (mj_M)} {q : mj_M} (hs : mj_sh[bo]? = some (.inr (ci, ks))) (hc : mj_cl[ci]? = some (Cn, T, N)) (hE1 : mj_EV Cn y bytes maxL rt n) (hl0 : Cond.methodLink "WinterTellersLaw" idx y ∈ mj_TT) (hn : As.length = n) (hav : As.map (mj_v (mj_d g)) = As) (hw : (st.map fun v => v.category).sum ≤ 8) (hce : ce ≤ 601024) (hsl : sl ≤ 7293034) (hM : mj_Mt g (mj_qV g) 1000 y bytes maxL rt (.ref bo :: As) M o1) (ho : o1 = some q) (hd : decode code pc = .ok (.invokevirtual idx, 3)) (kk : mj_Z g b Lz xs (pc + 3) lv (st) q ce sl) : mj_Z g b Lz xs pc lv (As.reverse ++ .ref (mj_d g bo) :: st) M ce sl := by
  intro p e s m below meth c C hg hK hT hE H locs ls hP hD hS hl
  obtain ⟨hx, hb, hr, hml, hown, htl, hX, hbl, hlk, hgv⟩ := id C
  have hts := mj_Zt C
  have hbA : ¬ mj_A g b := by unfold mj_A; rw [hg]; exact Nat.not_le.mpr hbl
  obtain ⟨h1, h2, h3, h4, h5, h6⟩ := hE1
  refine va_callv (va_runV (C := Cn) (As := As) (rest := st) ⟨hx, hb, hml, hown, hts⟩ (hM q ho) ⟨⟨rfl, rfl, by decide, ?_, mj_good hts h1, List.mem_cons_self, hts _ h1, hts _ h2, ⟨h5.1, h5.2.1⟩, fun sig h => mj_pl h5.2.2 h, hts _ hl0⟩, hts _ h3, hts _ h4⟩ ⟨mj_blind, va_recv hK hP hc (mj_w_at g M hs), fun U hU hW => ⟨?_, mj_I_at (args := #[]) hK hT hP hD hS hU hW⟩⟩ rfl hn hl.1 rfl (lv_room hw) hd ⟨hce, hsl⟩) hS (fun z _ h => h) (fun z h => h) (fun u t H1 locs1 ht hvm hw2 hB hz1 hk1 hS1 => ?_)
  · show 8 + (maxL + 11) + 60 * 1000 ≤ 84000
    omega
  · show _ = ((.ref bo :: As).map (mj_v (mj_d g))).toArray
    rw [List.map_cons, hav]; rfl
  · skip
    obtain ⟨hP1, hK1, hD1, hT1⟩ := hB
    rw [ht] at hP1
    exact kk p e s m below meth c C hg hK hT hE H1 locs1 ls hP1 hD1 hS1 hl
theorem qz_tl : Cond.methodLink "WinterTellersLaw" 42 y_L_tale ∈ mj_TT := mj_tt (List.mem_of_getElem? (i := 1096) (by decide +kernel)) (by decide +kernel)
theorem qz_ts : Cond.static y_L_tale ∈ mj_TT := mj_tt (List.mem_of_getElem? (i := 1097) (by decide +kernel)) (by decide +kernel)
theorem qz_ti : Cond.initialized "WinterTellersLaw" ∈ mj_TT := mj_tt (List.mem_of_getElem? (i := 0) (by decide +kernel)) (by decide +kernel)
theorem mj_goodW {args : Array Value} {s : State} (hts : ∀ w ∈ mj_TT, w.before args s = true) : ∀ w ∈ (Cond.codeWith y_L_tale c_L_tale 5 (some .int) [(0, 10, 13, 13)] :: mj_TT), ∀ (a' : Array Value) (U : State), s.WarmedH U.vm → w.before a' U = true := by
  refine pay_in hts fun w hw => ?_
  have h1 : w ∈ mj_TT := (List.mem_cons.mp hw).elim (fun e => e ▸ qy_c) id
  exact ⟨h1, good_of_word (List.mem_filter.mp h1).2⟩
theorem mz_tale (hst : (mj_l g).stackTraces = false) {x1 x2 : Int32} {q : Int32 × mj_M} (hcase : (∃ v M1, F_W_tale x1 x2 M = some (v, M1) ∧ q = (0, mj_out M1 v.toInt64)) ∨ (F_Coast_hasTale x1 M = some (0, M) ∨ (∃ v, F_Coast_hasTale x1 M = some (v, M)) ∧ (x2 < 0 ∨ ¬ x2 ≤ 3)) ∧ q = (1, M)) (hce : ce + 1 ≤ 601024) (hsl : sl + 6 ≤ 7293034) (hd : decode code pc = .ok (.invokestatic 42, 3)) (kk : mj_Z g b Lz xs (pc + 3) lv [.int q.1] q.2 (ce + 1) (sl + 6)) : mj_Z g b Lz xs pc lv [.ref (mj_d g 73), .int x2, .int x1, .ref (mj_d g 0)] M ce sl := by
  intro p e s m below meth c C hg hK hT hE H locs ls hP hD hS hl
  obtain ⟨hx, hb, hr, hml, hown, htl, hX, hbl, hlk, hgv⟩ := id C
  have hts := mj_Zt C
  have hbA : ¬ mj_A g b := by unfold mj_A; rw [hg]; exact Nat.not_le.mpr hbl
  refine va_calli (vx_runSW (hh := [(0, 10, 13, 13)]) (bytes := c_L_tale) (maxL := 5) (ret := some .int) (n := 4) (As := [.ref (mj_d g 0), .int x1, .int x2, .ref (mj_d g 73)]) (rest := []) ⟨hx, hb, hml, hown, hts⟩ (Y_tale hst x1 x2 M q hcase) ⟨⟨rfl, rfl, by decide, by decide, mj_goodW hts, List.mem_cons_self⟩, hts _ qy_c, hts _ qz_ti, ⟨by decide +kernel, by decide +kernel⟩, fun sig h => mj_pl (n := 4) (by decide +kernel) h, hts _ qz_tl, hts _ qz_ts⟩ ⟨mj_blX (as := [.ref 0, .int x1, .int x2, .ref 73]), fun U hU hW => ⟨rfl, mj_I_at (args := #[]) hK hT hP hD hS hU hW, mj_EXw hS hU hW hE⟩⟩ rfl rfl hl.1 rfl (lv_room (Nat.le_of_ble_eq_true rfl)) hd ⟨hce, hsl⟩) hS (fun z _ h => h) (fun z h => h) (fun r u t H1 locs1 ht hvm hw2 hB hz1 hk1 hS1 => ?_)
  subst hw2
  obtain ⟨hP1, hK1, hD1, hT1⟩ := hB
  rw [ht] at hP1
  exact kk p e s m below meth c C hg hK hT hE H1 locs1 ls hP1 hD1 hS1 hl
end RulesZ
