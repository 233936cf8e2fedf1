/-! ===== the rules of X: Math, System.arraycopy ===== -/
theorem mj_wini : Cond.initialized "java/lang/Math" ∈ mj_TT := mj_tt (List.mem_of_getElem? (i := 20) (by decide +kernel)) (by decide +kernel)
theorem mj_ws_max : Cond.static Lib.Math.max.name ∈ mj_TT := mj_tt (List.mem_of_getElem? (i := 696) (by decide +kernel)) (by decide +kernel)
theorem mj_wc_max : Cond.code Lib.Math.max.name Lib.Math.max.code 2 (some .int) ∈ mj_TT := mj_tt (List.mem_of_getElem? (i := 697) (by decide +kernel)) (by decide +kernel)
theorem mj_ws_min : Cond.static Lib.Math.min.name ∈ mj_TT := mj_tt (List.mem_of_getElem? (i := 693) (by decide +kernel)) (by decide +kernel)
theorem mj_wc_min : Cond.code Lib.Math.min.name Lib.Math.min.code 2 (some .int) ∈ mj_TT := mj_tt (List.mem_of_getElem? (i := 694) (by decide +kernel)) (by decide +kernel)
theorem mj_ws_abs : Cond.static Lib.Math.abs.name ∈ mj_TT := mj_tt (List.mem_of_getElem? (i := 753) (by decide +kernel)) (by decide +kernel)
theorem mj_wc_abs : Cond.code Lib.Math.abs.name Lib.Math.abs.code 1 (some .int) ∈ mj_TT := mj_tt (List.mem_of_getElem? (i := 754) (by decide +kernel)) (by decide +kernel)
theorem mj_ws_lmax : Cond.static Lib.MathLoose.max_long.x ∈ mj_TT := mj_tt (List.mem_of_getElem? (i := 1518) (by decide +kernel)) (by decide +kernel)
theorem mj_wc_lmax : Cond.code Lib.MathLoose.max_long.x Lib.MathLoose.max_long.code 4 (some .long) ∈ mj_TT := mj_tt (List.mem_of_getElem? (i := 1519) (by decide +kernel)) (by decide +kernel)
theorem mj_ws_lmin : Cond.static Lib.MathLoose.min_long.x ∈ mj_TT := mj_tt (List.mem_of_getElem? (i := 1515) (by decide +kernel)) (by decide +kernel)
theorem mj_wc_lmin : Cond.code Lib.MathLoose.min_long.x Lib.MathLoose.min_long.code 4 (some .long) ∈ mj_TT := mj_tt (List.mem_of_getElem? (i := 1516) (by decide +kernel)) (by decide +kernel)
theorem mj_wac : Cond.native arraycopyName ∈ mj_TT := mj_tt (List.mem_of_getElem? (i := 475) (by decide +kernel)) (by decide +kernel)
theorem mj_wac2 : Cond.static arraycopyName ∈ mj_TT := mj_tt (List.mem_of_getElem? (i := 474) (by decide +kernel)) (by decide +kernel)
theorem mj_wac3 : Cond.initialized "java/lang/System" ∈ mj_TT := mj_tt (List.mem_of_getElem? (i := 14) (by decide +kernel)) (by decide +kernel)
def mj_max (x y : Int32) : Int32 := if x < y then y else x
def mj_min (x y : Int32) : Int32 := if y < x then y else x
def mj_abs (x : Int32) : Int32 := if 0 ≤ x then x else 0 - x
def mj_lmax (x y : Int64) : Int64 := if y < x then x else y
def mj_lmin (x y : Int64) : Int64 := if y < x then y else x
section RulesM
variable {R : Type} {g : mj_G} {po : R → Array Value → State → Outcome → State → Prop} {own : String} {cc : ByteArray} {nL : Nat} {ret : Option FieldType} {d pc : Nat} {L : List (Nat × Value)} {st : List Value} {M : mj_M} {o : Option R} {idx : Nat}
theorem mj_lo60 {k : Nat} (hk : k ≤ 40) (hw : (st.map fun v => v.category).sum ≤ 8) : ((st.map (mj_v (mj_d g))).map fun v => v.category).sum + k ≤ (mj_rm (d + 1)).locals := by
  rw [mj_cats]
  show _ ≤ 60 * (d + 1)
  omega
theorem mj_mmax {x y : Int32} (hl0 : Cond.methodLink own idx Lib.Math.max.name ∈ mj_TT) (hw : (st.map fun v => v.category).sum ≤ 8) (hd : decode cc pc = .ok (.invokestatic idx, 3)) (k : mj_X g po own cc nL ret d (pc + 3) L (.int (mj_max x y) :: st) M o) : mj_X g po own cc nL ret d pc L (.int y :: .int x :: st) M o := by
  intro q hq p e s m args below meth c hx hb hml hr hlk hown hts hK hT H locs ls hP hD hS hl
  exact va_mmax hx hb (hml.trans hl.1.symm) hown (hts _ hl0) (hts _ mj_ws_max) (hts _ mj_wini) (hts _ mj_wc_max) (by show 1 ≤ d + 1; omega) (mj_lo60 (by omega) hw) (Nat.le_refl _) (Nat.le_refl _) hd (k q hq p e s m args below meth c hx hb hml hr hlk hown hts hK hT H locs ls hP hD hS hl)
theorem mj_mmin {x y : Int32} (hl0 : Cond.methodLink own idx Lib.Math.min.name ∈ mj_TT) (hw : (st.map fun v => v.category).sum ≤ 8) (hd : decode cc pc = .ok (.invokestatic idx, 3)) (k : mj_X g po own cc nL ret d (pc + 3) L (.int (mj_min x y) :: st) M o) : mj_X g po own cc nL ret d pc L (.int y :: .int x :: st) M o := by
  intro q hq p e s m args below meth c hx hb hml hr hlk hown hts hK hT H locs ls hP hD hS hl
  exact va_mmin hx hb (hml.trans hl.1.symm) hown (hts _ hl0) (hts _ mj_ws_min) (hts _ mj_wini) (hts _ mj_wc_min) (by show 1 ≤ d + 1; omega) (mj_lo60 (by omega) hw) (Nat.le_refl _) (Nat.le_refl _) hd (k q hq p e s m args below meth c hx hb hml hr hlk hown hts hK hT H locs ls hP hD hS hl)
theorem mj_mabs {x : Int32} (hl0 : Cond.methodLink own idx Lib.Math.abs.name ∈ mj_TT) (hw : (st.map fun v => v.category).sum ≤ 8) (hd : decode cc pc = .ok (.invokestatic idx, 3)) (k : mj_X g po own cc nL ret d (pc + 3) L (.int (mj_abs x) :: st) M o) : mj_X g po own cc nL ret d pc L (.int x :: st) M o := by
  intro q hq p e s m args below meth c hx hb hml hr hlk hown hts hK hT H locs ls hP hD hS hl
  exact va_mabs hx hb (hml.trans hl.1.symm) hown (hts _ hl0) (hts _ mj_ws_abs) (hts _ mj_wini) (hts _ mj_wc_abs) (by show 1 ≤ d + 1; omega) (mj_lo60 (by omega) hw) (Nat.le_refl _) (Nat.le_refl _) hd (k q hq p e s m args below meth c hx hb hml hr hlk hown hts hK hT H locs ls hP hD hS hl)
theorem mj_mlmax {x y : Int64} (hl0 : Cond.methodLink own idx Lib.MathLoose.max_long.x ∈ mj_TT) (hw : (st.map fun v => v.category).sum ≤ 8) (hd : decode cc pc = .ok (.invokestatic idx, 3)) (k : mj_X g po own cc nL ret d (pc + 3) L (.long (mj_lmax x y) :: st) M o) : mj_X g po own cc nL ret d pc L (.long y :: .long x :: st) M o := by
  intro q hq p e s m args below meth c hx hb hml hr hlk hown hts hK hT H locs ls hP hD hS hl
  exact va_mmax_long hx hb (hml.trans hl.1.symm) hown (hts _ hl0) (hts _ mj_ws_lmax) (hts _ mj_wini) (hts _ mj_wc_lmax) (by show 1 ≤ d + 1; omega) (mj_lo60 (by omega) hw) (Nat.le_refl _) (Nat.le_refl _) hd (k q hq p e s m args below meth c hx hb hml hr hlk hown hts hK hT H locs ls hP hD hS hl)
theorem mj_mlmin {x y : Int64} (hl0 : Cond.methodLink own idx Lib.MathLoose.min_long.x ∈ mj_TT) (hw : (st.map fun v => v.category).sum ≤ 8) (hd : decode cc pc = .ok (.invokestatic idx, 3)) (k : mj_X g po own cc nL ret d (pc + 3) L (.long (mj_lmin x y) :: st) M o) : mj_X g po own cc nL ret d pc L (.long y :: .long x :: st) M o := by
  intro q hq p e s m args below meth c hx hb hml hr hlk hown hts hK hT H locs ls hP hD hS hl
  exact va_mmin_long hx hb (hml.trans hl.1.symm) hown (hts _ hl0) (hts _ mj_ws_lmin) (hts _ mj_wini) (hts _ mj_wc_lmin) (by show 1 ≤ d + 1; omega) (mj_lo60 (by omega) hw) (Nat.le_refl _) (Nat.le_refl _) hd (k q hq p e s m args below meth c hx hb hml hr hlk hown hts hK hT H locs ls hP hD hS hl)
/-- System.arraycopy: from place sp of a row of n0 on, n of them to place dp of a row of n1 -/
def mj_ac {R : Type} (sp dp n : Int32) (n0 n1 : Nat) (o : Option R) : Option R := if sp < 0 ∨ dp < 0 ∨ n < 0 ∨ n0 < sp.toNatClampNeg + n.toNatClampNeg ∨ n1 < dp.toNatClampNeg + n.toNatClampNeg then none else o
theorem mj_ac_in {sp dp n : Int32} {n0 n1 : Nat} {o : Option R} {q : R} (h : mj_ac sp dp n n0 n1 o = some q) : (¬ sp < 0 ∧ ¬ dp < 0 ∧ ¬ n < 0 ∧ sp.toNatClampNeg + n.toNatClampNeg ≤ n0 ∧ dp.toNatClampNeg + n.toNatClampNeg ≤ n1) ∧ o = some q := by
  unfold mj_ac at h
  split at h
  · cases h
  · next h2 =>
    simp only [not_or, Nat.not_lt] at h2
    exact ⟨h2, h⟩
theorem mj_copy {b0 b1 n0 n1 : Nat} {sp dp n : Int32} {f : mj_M → Option R} (hs0 : mj_sh[b0]? = some (.inl (.int, n0))) (hs1 : mj_sh[b1]? = some (.inl (.int, n1))) (hl0 : Cond.methodLink own idx arraycopyName ∈ mj_TT) (hw : (st.map fun v => v.category).sum ≤ 8) (hd : decode cc pc = .ok (.invokestatic idx, 3))
    (k : ∀ M2, M2 = mj_a M b1 (va_cpy (M b0) (M b1) sp.toNatClampNeg dp.toNatClampNeg n.toNatClampNeg) → mj_X g po own cc nL ret d (pc + 3) L st M2 (f M2)) : mj_X g po own cc nL ret d pc L (.int n :: .int dp :: .ref b1 :: .int sp :: .ref b0 :: st) M (mj_ac sp dp n n0 n1 (mj_lt (mj_a M b1 (va_cpy (M b0) (M b1) sp.toNatClampNeg dp.toNatClampNeg n.toNatClampNeg)) f)) := by
  intro q hq p e s m args below meth c hx hb hml hr hlk hown hts hK hT H locs ls hP hD hS hl
  obtain ⟨⟨h1, h2, h3, h4, h5⟩, hq⟩ := mj_ac_in hq
  refine va_copyi (ty := .int) hx hb (hml.trans hl.1.symm) hown (hts _ hl0) (hts _ mj_wac) (hts _ mj_wac2) (hts _ mj_wac3) hK hP hD hS b0 b1 b0 b1 (mj_w_at g M hs0) (mj_w_at g M hs1) (mj_ty_at g hs0) (mj_ty_at g hs1) rfl h1 h2 h3 h4 h5 (fun i _ => rfl) (by show 1 ≤ d + 1; omega) (mj_lo60 (by decide) hw) hd (fun H1 locs1 hP1 hD1 hS1 => ?_)
  have e2 : (mj_w g M).set b1 (mj_d g b1, .inl (mj_c g b1, n1, .inl (va_cpy (M b0) (M b1) sp.toNatClampNeg dp.toNatClampNeg n.toNatClampNeg))) = mj_w g (mj_a M b1 (va_cpy (M b0) (M b1) sp.toNatClampNeg dp.toNatClampNeg n.toNatClampNeg)) := by
    rw [← mj_w_set g M (mj_a M b1 (va_cpy (M b0) (M b1) sp.toNatClampNeg dp.toNatClampNeg n.toNatClampNeg)) hs1 (fun c h => if_neg h)]
    have e3 : (mj_a M b1 (va_cpy (M b0) (M b1) sp.toNatClampNeg dp.toNatClampNeg n.toNatClampNeg)) b1 = va_cpy (M b0) (M b1) sp.toNatClampNeg dp.toNatClampNeg n.toNatClampNeg := if_pos rfl
    rw [e3]; rfl
  have hP2 : va_P (mj_D g) mj_cl (mj_w g (mj_a M b1 (va_cpy (M b0) (M b1) sp.toNatClampNeg dp.toNatClampNeg n.toNatClampNeg))) H1 := e2 ▸ hP1
  have hD2 : va_D (mj_A g) (mj_w g (mj_a M b1 (va_cpy (M b0) (M b1) sp.toNatClampNeg dp.toNatClampNeg n.toNatClampNeg))) := e2 ▸ hD1
  exact k _ rfl q hq p e s m args below meth c hx hb hml hr hlk hown hts hK hT H1 locs1 ls hP2 hD2 hS1 hl
theorem mj_z32 {z : Int32} (hz : ¬ z < 0) : z.toInt = (z.toNatClampNeg : Int) := by
  have h1 : (0 : Int) ≤ z.toInt := by have := Int32.le_iff_toInt_le.mp (Int32.not_lt.mp hz); simpa using this
  show z.toInt = ((z.toInt.toNat : Nat) : Int)
  omega
/-- .. out of a static row -/
theorem mj_copyS {i b1 n1 : Nat} {sp dp n : Int32} {sc sn sd : String} {vs : List Int32} {f : mj_M → Option R} (hi : mj_st[i]? = some (sc, sn, sd, .int, vs)) (hs1 : mj_sh[b1]? = some (.inl (.int, n1))) (hl0 : Cond.methodLink own idx arraycopyName ∈ mj_TT) (hw : (st.map fun v => v.category).sum ≤ 8) (hd : decode cc pc = .ok (.invokestatic idx, 3))
    (k : ∀ M2, M2 = mj_a M b1 (va_cpy (fun j => vs.getD j 0) (M b1) sp.toNatClampNeg dp.toNatClampNeg n.toNatClampNeg) → mj_X g po own cc nL ret d (pc + 3) L st M2 (f M2)) : mj_X g po own cc nL ret d pc L (.int n :: .int dp :: .ref b1 :: .int sp :: .ref (200 + i) :: st) M (mj_ac sp dp n vs.length n1 (mj_lt (mj_a M b1 (va_cpy (fun j => vs.getD j 0) (M b1) sp.toNatClampNeg dp.toNatClampNeg n.toNatClampNeg)) f)) := by
  intro q hq p e s m args below meth c hx hb hml hr hlk hown hts hK hT H locs ls hP hD hS hl
  obtain ⟨⟨h1, h2, h3, h4, h5⟩, hq⟩ := mj_ac_in hq
  have ha1 := mj_w_at g M hs1
  have e2 : (mj_w g M).set b1 (mj_d g b1, .inl (mj_c g b1, n1, .inl (va_cpy (fun j => vs.getD j 0) (M b1) sp.toNatClampNeg dp.toNatClampNeg n.toNatClampNeg))) = mj_w g (mj_a M b1 (va_cpy (fun j => vs.getD j 0) (M b1) sp.toNatClampNeg dp.toNatClampNeg n.toNatClampNeg)) := by
    rw [← mj_w_set g M (mj_a M b1 (va_cpy (fun j => vs.getD j 0) (M b1) sp.toNatClampNeg dp.toNatClampNeg n.toNatClampNeg)) hs1 (fun c h => if_neg h)]
    have e3 : (mj_a M b1 (va_cpy (fun j => vs.getD j 0) (M b1) sp.toNatClampNeg dp.toNatClampNeg n.toNatClampNeg)) b1 = va_cpy (fun j => vs.getD j 0) (M b1) sp.toNatClampNeg dp.toNatClampNeg n.toNatClampNeg := if_pos rfl
    rw [e3]; rfl
  generalize hnew : va_cpy (fun j => vs.getD j 0) (M b1) sp.toNatClampNeg dp.toNatClampNeg n.toNatClampNeg = fn at e2 k hq
  intro T hTh X
  obtain ⟨scr, hs1', hs2, hs3, -, -, hs5, hs7⟩ := (hT i _ hi).2
  have hsz : vs.length ≤ scr.slots.size := by
    cases hv : vs.length with
    | zero => exact Nat.zero_le _
    | succ z =>
      have := hs5 z (by show z < vs.length; omega)
      have := (Array.getElem?_eq_some_iff.mp this).1
      omega
  have hc0 : H[mj_d g (200 + i)]? = some scr := by rw [hS.2.1 _ (Array.getElem?_eq_some_iff.mp hs1').1 hs7]; exact hs1'
  have hc1 : H[mj_d g b1]? = some (vp_cell (mj_c g b1) (n1, .inl (M b1))) := hP b1 _ ha1
  obtain ⟨hs6, k0, hk0, cm0, hkk0⟩ := hs2
  obtain ⟨-, k1, hk1, cm1, hkk1⟩ := (hK.2 b1 _ (mj_ty_at g hs1)).1 n1 (fun j => .int (M b1 j))
  obtain ⟨vm', X', step⟩ := X.arraycopy hx hown (hts _ hl0) (hts _ mj_wac) (hts _ mj_wac2) (hts _ mj_wac3) (src := mj_d g (200 + i)) (dst := mj_d g b1) (cs := scr) (cd := vp_cell (mj_c g b1) (n1, .inl (M b1))) (srcPos := sp) (destPos := dp) (n := n) (hTh ▸ hc0) (hTh ▸ hc1) hs6 (fun _ h => by cases h) hs3 (fun h => by cases h) hk0 hk1 hkk0 hkk1 (by simp [refKind, mj_to]) h1 h2 h3
    (by rw [mj_z32 h1, mj_z32 h3]; omega)
    (by rw [mj_z32 h2, mj_z32 h3]; show ¬ _ > ((arrV (mj_c g b1) n1 (fun j => .int (M b1 j))).slots.size : Int); rw [arrV_size]; omega)
    (fun _ _ j hj => by
      have e : scr.slots.getD (sp.toNatClampNeg + j) .null = .int (vs.getD (sp.toNatClampNeg + j) 0) := by
        rw [Array.getD_eq_getD_getElem?, hs5 _ (by show _ < vs.length; omega)]; rfl
      rw [e]; exact ⟨rfl, trivial⟩)
    (g := F0 m pc ls ((.int n :: .int dp :: .ref b1 :: .int sp :: .ref (200 + i) :: st).map (mj_v (mj_d g)))) rfl (hl.1.trans hml.symm) (rest := st.map (mj_v (mj_d g))) rfl (hb ▸ hd) (by show 1 ≤ d + 1; omega) (by have := mj_lo60 (g := g) (d := d) (k := nativeFrameWords "java/lang/System" "arraycopy" 5 + 11) (by decide) hw; show 2 * 0 + _ + _ ≤ _; omega)
  have e1 : copied scr (vp_cell (mj_c g b1) (n1, .inl (M b1))) sp dp n = vp_cell (mj_c g b1) (n1, .inl fn) := by
    rw [← hnew]; exact va_copiedX (fun z => .int z) scr (mj_c g b1) (fun j => vs.getD j 0) (M b1) hs5 h4
  rw [e1] at X' step
  have hlt : mj_d g b1 < H.size := (Array.getElem?_eq_some_iff.mp hc1).1
  have oq : ∀ z : Nat, z ≠ mj_d g b1 → (H.setIfInBounds (mj_d g b1) (vp_cell (mj_c g b1) (n1, .inl fn)))[z]? = H[z]? := fun z hz => by simp [Array.getElem?_setIfInBounds, Ne.symm hz]
  have hP2 : va_P (mj_D g) mj_cl ((mj_w g M).set b1 (mj_d g b1, .inl (mj_c g b1, n1, .inl fn))) (H.setIfInBounds (mj_d g b1) (vp_cell (mj_c g b1) (n1, .inl fn))) := hP.set hD ha1 (show (H.setIfInBounds (mj_d g b1) (vp_cell (mj_c g b1) (n1, .inl fn)))[mj_d g b1]? = some (vp_cell (mj_c g b1) (n1, .inl fn)) by simp [Array.getElem?_setIfInBounds, hlt]) oq
  have hD2 : va_D (mj_A g) ((mj_w g M).set b1 (mj_d g b1, .inl (mj_c g b1, n1, .inl fn))) := hD.set ha1
  rw [e2] at hP2 hD2
  have hb1A : mj_A g (mj_d g b1) := hD.2 b1 _ ha1
  obtain ⟨t, a1, b1'⟩ := k _ rfl q hq p e s m args below meth c hx hb hml hr hlk hown hts hK hT _ _ ls hP2 hD2 ⟨by simp; exact hS.1, fun z g1 g2 => by
      rw [oq z (fun e => g2 (e ▸ hb1A))]
      exact hS.2.1 z g1 g2, fun z hz => by
      rcases List.mem_append.mp hz with h | h
      · exact hS.2.2 z h
      · obtain ⟨y, -, hy⟩ := List.mem_map.mp h
        rw [← hy]; exact hb1A⟩ hl ((T.setVm vm').setCell (mj_d g b1) (vp_cell (mj_c g b1) (n1, .inl fn))) (by rw [← hTh]; rfl) X'
  exact ⟨t, step t a1, b1'⟩
end RulesM
