/-! ===== the rules of X: fields, arrays, switches, ends ===== -/
/-- an index into a row of n -/
def mj_ck {R : Type} (i : Int32) (n : Nat) (o : Option R) : Option R := if i < 0 ∨ n ≤ i.toNatClampNeg then none else o
theorem mj_ck_in {R : Type} {i : Int32} {n : Nat} {o : Option R} {q : R} (h : mj_ck i n o = some q) : vp_in i n ∧ o = some q := by
  unfold mj_ck at h
  split at h
  · cases h
  · next h2 => exact ⟨h2, h⟩
section RulesH
variable {R : Type} {g : mj_G} {po : R → Array Value → State → Outcome → State → Prop} {own : String} {cc : ByteArray} {nL : Nat} {ret : Option FieldType} {d pc : Nat} {L : List (Nat × Value)} {st : List Value} {M : mj_M} {o : Option R}
theorem mj_getI {b ci k idx N : Nat} {C ref nm ds : String} {fin : Bool} {T : u_T} {ks : List Nat} (hq0 : Cond.fieldLink own idx ref nm ds ∈ mj_TT) (hs : mj_sh[b]? = some (.inr (ci, ks))) (hc : mj_cl[ci]? = some (C, T, N)) (hTk : T k = (ref, nm, ds, fin)) (hk : k < N) (hks : ks[k]? = some 0) (hd : decode cc pc = .ok (.getfield idx, 3)) (kk : mj_X g po own cc nL ret d (pc + 3) L (.int (M b k) :: st) M o) : mj_X g po own cc nL ret d pc L (.ref b :: st) M o := by
  intro q hq p e s m args below meth c hx hb hml hr hlk hown hts hK hT H locs ls hP hD hS hl
  have e1 : (T k).1 = ref ∧ (T k).2.1 = nm ∧ (T k).2.2.1 = ds := by rw [hTk]; exact ⟨rfl, rfl, rfl⟩
  refine va_get (ref := ref) (v := mj_fv (mj_d g) (M b) k 0) (C := C) (T := T) (N := N) hx hb hts (mj_in ci _ hc) hown hK hP b (mj_w_at g M hs) hc k hk (by rw [e1.2.1, e1.2.2]; exact hts _ hq0) (fun x h => by rw [← e1.1]; exact h) (mj_fs_at hks) hd ?_
  exact kk q hq p e s m args below meth c hx hb hml hr hlk hown hts hK hT H locs ls hP hD hS hl
theorem mj_getR {b ci k idx N : Nat} {C ref nm ds : String} {fin : Bool} {T : u_T} {ks : List Nat} (hq0 : Cond.fieldLink own idx ref nm ds ∈ mj_TT) (hs : mj_sh[b]? = some (.inr (ci, ks))) (hc : mj_cl[ci]? = some (C, T, N)) (hTk : T k = (ref, nm, ds, fin)) (hk : k < N) {r : Nat} (hks : ks[k]? = some (r + 2)) (hd : decode cc pc = .ok (.getfield idx, 3)) (kk : mj_X g po own cc nL ret d (pc + 3) L (.ref r :: st) M o) : mj_X g po own cc nL ret d pc L (.ref b :: st) M o := by
  intro q hq p e s m args below meth c hx hb hml hr hlk hown hts hK hT H locs ls hP hD hS hl
  have e1 : (T k).1 = ref ∧ (T k).2.1 = nm ∧ (T k).2.2.1 = ds := by rw [hTk]; exact ⟨rfl, rfl, rfl⟩
  refine va_get (ref := ref) (v := mj_fv (mj_d g) (M b) k (r + 2)) (C := C) (T := T) (N := N) hx hb hts (mj_in ci _ hc) hown hK hP b (mj_w_at g M hs) hc k hk (by rw [e1.2.1, e1.2.2]; exact hts _ hq0) (fun x h => by rw [← e1.1]; exact h) (mj_fs_at hks) hd ?_
  exact kk q hq p e s m args below meth c hx hb hml hr hlk hown hts hK hT H locs ls hP hD hS hl
theorem mj_getJ {b ci k idx N : Nat} {C ref nm ds : String} {fin : Bool} {T : u_T} {ks : List Nat} (hq0 : Cond.fieldLink own idx ref nm ds ∈ mj_TT) (hs : mj_sh[b]? = some (.inr (ci, ks))) (hc : mj_cl[ci]? = some (C, T, N)) (hTk : T k = (ref, nm, ds, fin)) (hk : k < N) (hks : ks[k]? = some 1) (hd : decode cc pc = .ok (.getfield idx, 3)) (kk : mj_X g po own cc nL ret d (pc + 3) L (.long (mj_cat (M b k) (M b (k + 1000))) :: st) M o) : mj_X g po own cc nL ret d pc L (.ref b :: st) M o := by
  intro q hq p e s m args below meth c hx hb hml hr hlk hown hts hK hT H locs ls hP hD hS hl
  have e1 : (T k).1 = ref ∧ (T k).2.1 = nm ∧ (T k).2.2.1 = ds := by rw [hTk]; exact ⟨rfl, rfl, rfl⟩
  refine va_get (ref := ref) (v := mj_fv (mj_d g) (M b) k 1) (C := C) (T := T) (N := N) hx hb hts (mj_in ci _ hc) hown hK hP b (mj_w_at g M hs) hc k hk (by rw [e1.2.1, e1.2.2]; exact hts _ hq0) (fun x h => by rw [← e1.1]; exact h) (mj_fs_at hks) hd ?_
  exact kk q hq p e s m args below meth c hx hb hml hr hlk hown hts hK hT H locs ls hP hD hS hl
theorem mj_putI {b ci k idx N : Nat} {C ref nm ds : String} {fin : Bool} {T : u_T} {ks : List Nat} (hq0 : Cond.fieldLink own idx ref nm ds ∈ mj_TT) (hs : mj_sh[b]? = some (.inr (ci, ks))) (hc : mj_cl[ci]? = some (C, T, N)) (hTk : T k = (ref, nm, ds, fin)) (hk : k < N) {x : Int32} {f : mj_M → Option R} (hk0 : k < 1000) (hks : ks[k]? = some 0) (hfin : fin = false) (hds : ds = "I") (hd : decode cc pc = .ok (.putfield idx, 3)) (kk : ∀ M2, M2 = mj_u M b k x → mj_X g po own cc nL ret d (pc + 3) L st M2 (f M2)) : mj_X g po own cc nL ret d pc L (.int x :: .ref b :: st) M (mj_lt (mj_u M b k x) f) := by
  intro q hq p e s m args below meth c hx hb hml hr hlk hown hts hK hT H locs ls hP hD hS hl
  have e1 : (T k).1 = ref ∧ (T k).2.1 = nm ∧ (T k).2.2.1 = ds ∧ (T k).2.2.2 = fin := by rw [hTk]; exact ⟨rfl, rfl, rfl, rfl⟩
  obtain ⟨⟨ty0, hty⟩, hnm⟩ := mj_tys ci _ hc
  refine va_put (ref := ref) (v := .int x) (ty := .int) (C := C) (T := T) (N := N) hx hb hts (mj_in ci _ hc) ty0 hty hnm hown hK hP hD hS b (mj_w_at g M hs) hc k hk (by rw [e1.2.1, e1.2.2.1]; exact hts _ hq0) (fun x h => by rw [← e1.1]; exact h) (by rw [e1.2.2.2]; exact hfin) (by rw [e1.2.2.1, hds]; decide +kernel) rfl rfl (by rw [List.length_mapIdx]; exact (List.getElem?_eq_some_iff.mp hks).1) hd (fun H1 locs1 hP1 hD1 hS1 => ?_)
  have e2 : (mj_w g M).set b (mj_d g b, .inr (ci, (mj_fs (mj_d g) (M b) ks).set k (.int x))) = mj_w g (mj_u M b k x) := by
    rw [mj_fs_set hks hk0, ← mj_w_set g M (mj_u M b k x) hs (mj_u_ne M), mj_u_eq]
    rfl
  have hP2 : va_P (mj_D g) mj_cl (mj_w g (mj_u M b k x)) H1 := e2 ▸ hP1
  have hD2 : va_D (mj_A g) (mj_w g (mj_u M b k x)) := e2 ▸ hD1
  exact kk _ rfl q hq p e s m args below meth c hx hb hml hr hlk hown hts hK hT H1 locs1 ls hP2 hD2 hS1 hl
theorem mj_putZ {b ci k idx N : Nat} {C ref nm ds : String} {fin : Bool} {T : u_T} {ks : List Nat} (hq0 : Cond.fieldLink own idx ref nm ds ∈ mj_TT) (hs : mj_sh[b]? = some (.inr (ci, ks))) (hc : mj_cl[ci]? = some (C, T, N)) (hTk : T k = (ref, nm, ds, fin)) (hk : k < N) {x : Int32} {f : mj_M → Option R} (hz : x = 0 ∨ x = 1) (hk0 : k < 1000) (hks : ks[k]? = some 0) (hfin : fin = false) (hds : ds = "Z") (hd : decode cc pc = .ok (.putfield idx, 3)) (kk : ∀ M2, M2 = mj_u M b k x → mj_X g po own cc nL ret d (pc + 3) L st M2 (f M2)) : mj_X g po own cc nL ret d pc L (.int x :: .ref b :: st) M (mj_lt (mj_u M b k x) f) := by
  intro q hq p e s m args below meth c hx hb hml hr hlk hown hts hK hT H locs ls hP hD hS hl
  have e1 : (T k).1 = ref ∧ (T k).2.1 = nm ∧ (T k).2.2.1 = ds ∧ (T k).2.2.2 = fin := by rw [hTk]; exact ⟨rfl, rfl, rfl, rfl⟩
  obtain ⟨⟨ty0, hty⟩, hnm⟩ := mj_tys ci _ hc
  refine va_put (ref := ref) (v := .int x) (ty := .boolean) (C := C) (T := T) (N := N) hx hb hts (mj_in ci _ hc) ty0 hty hnm hown hK hP hD hS b (mj_w_at g M hs) hc k hk (by rw [e1.2.1, e1.2.2.1]; exact hts _ hq0) (fun x h => by rw [← e1.1]; exact h) (by rw [e1.2.2.2]; exact hfin) (by rw [e1.2.2.1, hds]; decide +kernel) (by rcases hz with rfl | rfl <;> rfl) (by rcases hz with rfl | rfl <;> rfl) (by rw [List.length_mapIdx]; exact (List.getElem?_eq_some_iff.mp hks).1) hd (fun H1 locs1 hP1 hD1 hS1 => ?_)
  have e2 : (mj_w g M).set b (mj_d g b, .inr (ci, (mj_fs (mj_d g) (M b) ks).set k (.int x))) = mj_w g (mj_u M b k x) := by
    rw [mj_fs_set hks hk0, ← mj_w_set g M (mj_u M b k x) hs (mj_u_ne M), mj_u_eq]
    rfl
  have hP2 : va_P (mj_D g) mj_cl (mj_w g (mj_u M b k x)) H1 := e2 ▸ hP1
  have hD2 : va_D (mj_A g) (mj_w g (mj_u M b k x)) := e2 ▸ hD1
  exact kk _ rfl q hq p e s m args below meth c hx hb hml hr hlk hown hts hK hT H1 locs1 ls hP2 hD2 hS1 hl
theorem mj_putJ {b ci k idx N : Nat} {C ref nm ds : String} {fin : Bool} {T : u_T} {ks : List Nat} (hq0 : Cond.fieldLink own idx ref nm ds ∈ mj_TT) (hs : mj_sh[b]? = some (.inr (ci, ks))) (hc : mj_cl[ci]? = some (C, T, N)) (hTk : T k = (ref, nm, ds, fin)) (hk : k < N) {x : Int64} {f : mj_M → Option R} (hk0 : ks.length ≤ 1000) (hks : ks[k]? = some 1) (hfin : fin = false) (hds : ds = "J") (hd : decode cc pc = .ok (.putfield idx, 3)) (kk : ∀ M2, M2 = mj_u (mj_u M b k (mj_hi x)) b (k + 1000) (mj_lo x) → mj_X g po own cc nL ret d (pc + 3) L st M2 (f M2)) : mj_X g po own cc nL ret d pc L (.long x :: .ref b :: st) M (mj_lt (mj_u (mj_u M b k (mj_hi x)) b (k + 1000) (mj_lo x)) f) := by
  intro q hq p e s m args below meth c hx hb hml hr hlk hown hts hK hT H locs ls hP hD hS hl
  have e1 : (T k).1 = ref ∧ (T k).2.1 = nm ∧ (T k).2.2.1 = ds ∧ (T k).2.2.2 = fin := by rw [hTk]; exact ⟨rfl, rfl, rfl, rfl⟩
  obtain ⟨⟨ty0, hty⟩, hnm⟩ := mj_tys ci _ hc
  refine va_put (ref := ref) (v := .long x) (ty := .long) (C := C) (T := T) (N := N) hx hb hts (mj_in ci _ hc) ty0 hty hnm hown hK hP hD hS b (mj_w_at g M hs) hc k hk (by rw [e1.2.1, e1.2.2.1]; exact hts _ hq0) (fun x h => by rw [← e1.1]; exact h) (by rw [e1.2.2.2]; exact hfin) (by rw [e1.2.2.1, hds]; decide +kernel) rfl rfl (by rw [List.length_mapIdx]; exact (List.getElem?_eq_some_iff.mp hks).1) hd (fun H1 locs1 hP1 hD1 hS1 => ?_)
  have e2 : (mj_w g M).set b (mj_d g b, .inr (ci, (mj_fs (mj_d g) (M b) ks).set k (.long x))) = mj_w g (mj_u (mj_u M b k (mj_hi x)) b (k + 1000) (mj_lo x)) := by
    rw [mj_fs_setL hks hk0, ← mj_w_set g M (mj_u (mj_u M b k (mj_hi x)) b (k + 1000) (mj_lo x)) hs (fun c h => (mj_u_ne _ c h).trans (mj_u_ne _ c h)), mj_u_eq, mj_u_eq]
    rfl
  have hP2 : va_P (mj_D g) mj_cl (mj_w g (mj_u (mj_u M b k (mj_hi x)) b (k + 1000) (mj_lo x))) H1 := e2 ▸ hP1
  have hD2 : va_D (mj_A g) (mj_w g (mj_u (mj_u M b k (mj_hi x)) b (k + 1000) (mj_lo x))) := e2 ▸ hD1
  exact kk _ rfl q hq p e s m args below meth c hx hb hml hr hlk hown hts hK hT H1 locs1 ls hP2 hD2 hS1 hl
theorem mj_gets {i idx : Nat} {sq : String × String × String × FieldType × List Int32} (hi : mj_st[i]? = some sq) (hq0 : Cond.fieldLink own idx sq.1 sq.2.1 sq.2.2.1 ∈ mj_TT) (hd : decode cc pc = .ok (.getstatic idx, 3)) (kk : mj_X g po own cc nL ret d (pc + 3) L (.ref (200 + i) :: st) M o) : mj_X g po own cc nL ret d pc L st M o := by
  intro q hq p e s m args below meth c hx hb hml hr hlk hown hts hK hT H locs ls hP hD hS hl
  exact va_gets hx hb (hT i _ hi).1 hS hown (hts _ hq0) (fun x h => h) hd (kk q hq p e s m args below meth c hx hb hml hr hlk hown hts hK hT H locs ls hP hD hS hl)
theorem mj_stI {i : Nat} {z : Int32} {sc sn sd : String} {vs : List Int32} (hi : mj_st[i]? = some (sc, sn, sd, .int, vs)) (hd : decode cc pc = .ok (.iaload, 1)) (kk : mj_X g po own cc nL ret d (pc + 1) L (.int (vs.getD z.toNatClampNeg 0) :: st) M o) : mj_X g po own cc nL ret d pc L (.int z :: .ref (200 + i) :: st) M (mj_ck z vs.length o) := by
  intro q hq p e s m args below meth c hx hb hml hr hlk hown hts hK hT H locs ls hP hD hS hl
  obtain ⟨hin, hq⟩ := mj_ck_in hq
  exact va_ti hx hb (hT i _ hi).2 hS hin rfl hd (kk q hq p e s m args below meth c hx hb hml hr hlk hown hts hK hT H locs ls hP hD hS hl)
theorem mj_stC {i : Nat} {z : Int32} {sc sn sd : String} {vs : List Int32} (hi : mj_st[i]? = some (sc, sn, sd, .char, vs)) (hd : decode cc pc = .ok (.caload, 1)) (kk : mj_X g po own cc nL ret d (pc + 1) L (.int (vs.getD z.toNatClampNeg 0) :: st) M o) : mj_X g po own cc nL ret d pc L (.int z :: .ref (200 + i) :: st) M (mj_ck z vs.length o) := by
  intro q hq p e s m args below meth c hx hb hml hr hlk hown hts hK hT H locs ls hP hD hS hl
  obtain ⟨hin, hq⟩ := mj_ck_in hq
  exact va_tc hx hb (hT i _ hi).2 hS hin rfl hd (kk q hq p e s m args below meth c hx hb hml hr hlk hown hts hK hT H locs ls hP hD hS hl)
theorem mj_stlen {i : Nat} {sq : String × String × String × FieldType × List Int32} {v : Int32} (hi : mj_st[i]? = some sq) (hv : Int32.ofNat sq.2.2.2.2.length = v) (hd : decode cc pc = .ok (.arraylength, 1)) (kk : mj_X g po own cc nL ret d (pc + 1) L (.int v :: st) M o) : mj_X g po own cc nL ret d pc L (.ref (200 + i) :: st) M o := by
  intro q hq p e s m args below meth c hx hb hml hr hlk hown hts hK hT H locs ls hP hD hS hl
  exact va_tlen hx hb (hT i _ hi).2 hS hv hd (kk q hq p e s m args below meth c hx hb hml hr hlk hown hts hK hT H locs ls hP hD hS hl)
theorem mj_iald {b n : Nat} {i : Int32} (hs : mj_sh[b]? = some (.inl (.int, n))) (hd : decode cc pc = .ok (.iaload, 1)) (kk : mj_X g po own cc nL ret d (pc + 1) L (.int (M b i.toNatClampNeg) :: st) M o) : mj_X g po own cc nL ret d pc L (.int i :: .ref b :: st) M (mj_ck i n o) := by
  intro q hq p e s m args below meth c hx hb hml hr hlk hown hts hK hT H locs ls hP hD hS hl
  obtain ⟨hin, hq⟩ := mj_ck_in hq
  exact va_iald hx hb hK hP b b (mj_w_at g M hs) (mj_ty_at g hs) hin hd (kk q hq p e s m args below meth c hx hb hml hr hlk hown hts hK hT H locs ls hP hD hS hl)
theorem mj_ialdK {b n j : Nat} {i : Int32} (hs : mj_sh[b]? = some (.inl (.int, n))) (hin : ¬ (i < 0 ∨ n ≤ i.toNatClampNeg)) (hj : i.toNatClampNeg = j) (hd : decode cc pc = .ok (.iaload, 1)) (kk : mj_X g po own cc nL ret d (pc + 1) L (.int (M b j) :: st) M o) : mj_X g po own cc nL ret d pc L (.int i :: .ref b :: st) M o := by
  intro q hq p e s m args below meth c hx hb hml hr hlk hown hts hK hT H locs ls hP hD hS hl
  subst hj
  exact va_iald hx hb hK hP b b (mj_w_at g M hs) (mj_ty_at g hs) hin hd (kk q hq p e s m args below meth c hx hb hml hr hlk hown hts hK hT H locs ls hP hD hS hl)
theorem mj_zald {b n : Nat} {i : Int32} (hs : mj_sh[b]? = some (.inl (.boolean, n))) (hd : decode cc pc = .ok (.baload, 1)) (kk : mj_X g po own cc nL ret d (pc + 1) L (.int (M b i.toNatClampNeg) :: st) M o) : mj_X g po own cc nL ret d pc L (.int i :: .ref b :: st) M (mj_ck i n o) := by
  intro q hq p e s m args below meth c hx hb hml hr hlk hown hts hK hT H locs ls hP hD hS hl
  obtain ⟨hin, hq⟩ := mj_ck_in hq
  exact va_zald hx hb hK hP b b (mj_w_at g M hs) (mj_ty_at g hs) hin hd (kk q hq p e s m args below meth c hx hb hml hr hlk hown hts hK hT H locs ls hP hD hS hl)
theorem mj_zaldK {b n j : Nat} {i : Int32} (hs : mj_sh[b]? = some (.inl (.boolean, n))) (hin : ¬ (i < 0 ∨ n ≤ i.toNatClampNeg)) (hj : i.toNatClampNeg = j) (hd : decode cc pc = .ok (.baload, 1)) (kk : mj_X g po own cc nL ret d (pc + 1) L (.int (M b j) :: st) M o) : mj_X g po own cc nL ret d pc L (.int i :: .ref b :: st) M o := by
  intro q hq p e s m args below meth c hx hb hml hr hlk hown hts hK hT H locs ls hP hD hS hl
  subst hj
  exact va_zald hx hb hK hP b b (mj_w_at g M hs) (mj_ty_at g hs) hin hd (kk q hq p e s m args below meth c hx hb hml hr hlk hown hts hK hT H locs ls hP hD hS hl)
theorem mj_iast {b n : Nat} {i x : Int32} {f : mj_M → Option R} (hs : mj_sh[b]? = some (.inl (.int, n))) (hd : decode cc pc = .ok (.iastore, 1)) (kk : ∀ M2, M2 = mj_u M b i.toNatClampNeg x → mj_X g po own cc nL ret d (pc + 1) L st M2 (f M2)) : mj_X g po own cc nL ret d pc L (.int x :: .int i :: .ref b :: st) M (mj_ck i n (mj_lt (mj_u M b i.toNatClampNeg x) f)) := by
  intro q hq p e s m args below meth c hx hb hml hr hlk hown hts hK hT H locs ls hP hD hS hl
  obtain ⟨hin, hq⟩ := mj_ck_in hq
  refine va_iast hx hb hK hP hD hS b b (mj_w_at g M hs) (mj_ty_at g hs) hin hd (fun H1 locs1 hP1 hD1 hS1 => ?_)
  have e2 : (mj_w g M).set b (mj_d g b, .inl (mj_c g b, n, .inl (upd (M b) i.toNatClampNeg x))) = mj_w g (mj_u M b i.toNatClampNeg x) := by
    rw [← mj_w_set g M (mj_u M b i.toNatClampNeg x) hs (mj_u_ne M), mj_u_eq]; rfl
  have hP2 : va_P (mj_D g) mj_cl (mj_w g (mj_u M b i.toNatClampNeg x)) H1 := e2 ▸ hP1
  have hD2 : va_D (mj_A g) (mj_w g (mj_u M b i.toNatClampNeg x)) := e2 ▸ hD1
  exact kk _ rfl q hq p e s m args below meth c hx hb hml hr hlk hown hts hK hT H1 locs1 ls hP2 hD2 hS1 hl
theorem mj_iastK {b n j : Nat} {i x : Int32} {f : mj_M → Option R} (hs : mj_sh[b]? = some (.inl (.int, n))) (hin : ¬ (i < 0 ∨ n ≤ i.toNatClampNeg)) (hj : i.toNatClampNeg = j) (hd : decode cc pc = .ok (.iastore, 1)) (kk : ∀ M2, M2 = mj_u M b j x → mj_X g po own cc nL ret d (pc + 1) L st M2 (f M2)) : mj_X g po own cc nL ret d pc L (.int x :: .int i :: .ref b :: st) M (mj_lt (mj_u M b j x) f) := by
  intro q hq p e s m args below meth c hx hb hml hr hlk hown hts hK hT H locs ls hP hD hS hl
  subst hj
  refine va_iast hx hb hK hP hD hS b b (mj_w_at g M hs) (mj_ty_at g hs) hin hd (fun H1 locs1 hP1 hD1 hS1 => ?_)
  have e2 : (mj_w g M).set b (mj_d g b, .inl (mj_c g b, n, .inl (upd (M b) i.toNatClampNeg x))) = mj_w g (mj_u M b i.toNatClampNeg x) := by
    rw [← mj_w_set g M (mj_u M b i.toNatClampNeg x) hs (mj_u_ne M), mj_u_eq]; rfl
  have hP2 : va_P (mj_D g) mj_cl (mj_w g (mj_u M b i.toNatClampNeg x)) H1 := e2 ▸ hP1
  have hD2 : va_D (mj_A g) (mj_w g (mj_u M b i.toNatClampNeg x)) := e2 ▸ hD1
  exact kk _ rfl q hq p e s m args below meth c hx hb hml hr hlk hown hts hK hT H1 locs1 ls hP2 hD2 hS1 hl
theorem mj_zast {b n : Nat} {i x : Int32} {f : mj_M → Option R} (hs : mj_sh[b]? = some (.inl (.boolean, n))) (hd : decode cc pc = .ok (.bastore, 1)) (kk : ∀ M2, M2 = mj_u M b i.toNatClampNeg (vp_nar .boolean x) → mj_X g po own cc nL ret d (pc + 1) L st M2 (f M2)) : mj_X g po own cc nL ret d pc L (.int x :: .int i :: .ref b :: st) M (mj_ck i n (mj_lt (mj_u M b i.toNatClampNeg (vp_nar .boolean x)) f)) := by
  intro q hq p e s m args below meth c hx hb hml hr hlk hown hts hK hT H locs ls hP hD hS hl
  obtain ⟨hin, hq⟩ := mj_ck_in hq
  refine va_zast hx hb hK hP hD hS b b (mj_w_at g M hs) (mj_ty_at g hs) hin hd (fun H1 locs1 hP1 hD1 hS1 => ?_)
  have e2 : (mj_w g M).set b (mj_d g b, .inl (mj_c g b, n, .inl (upd (M b) i.toNatClampNeg (vp_nar .boolean x)))) = mj_w g (mj_u M b i.toNatClampNeg (vp_nar .boolean x)) := by
    rw [← mj_w_set g M (mj_u M b i.toNatClampNeg (vp_nar .boolean x)) hs (mj_u_ne M), mj_u_eq]; rfl
  have hP2 : va_P (mj_D g) mj_cl (mj_w g (mj_u M b i.toNatClampNeg (vp_nar .boolean x))) H1 := e2 ▸ hP1
  have hD2 : va_D (mj_A g) (mj_w g (mj_u M b i.toNatClampNeg (vp_nar .boolean x))) := e2 ▸ hD1
  exact kk _ rfl q hq p e s m args below meth c hx hb hml hr hlk hown hts hK hT H1 locs1 ls hP2 hD2 hS1 hl
theorem mj_zastK {b n j : Nat} {i x : Int32} {f : mj_M → Option R} (hs : mj_sh[b]? = some (.inl (.boolean, n))) (hin : ¬ (i < 0 ∨ n ≤ i.toNatClampNeg)) (hj : i.toNatClampNeg = j) (hd : decode cc pc = .ok (.bastore, 1)) (kk : ∀ M2, M2 = mj_u M b j (vp_nar .boolean x) → mj_X g po own cc nL ret d (pc + 1) L st M2 (f M2)) : mj_X g po own cc nL ret d pc L (.int x :: .int i :: .ref b :: st) M (mj_lt (mj_u M b j (vp_nar .boolean x)) f) := by
  intro q hq p e s m args below meth c hx hb hml hr hlk hown hts hK hT H locs ls hP hD hS hl
  subst hj
  refine va_zast hx hb hK hP hD hS b b (mj_w_at g M hs) (mj_ty_at g hs) hin hd (fun H1 locs1 hP1 hD1 hS1 => ?_)
  have e2 : (mj_w g M).set b (mj_d g b, .inl (mj_c g b, n, .inl (upd (M b) i.toNatClampNeg (vp_nar .boolean x)))) = mj_w g (mj_u M b i.toNatClampNeg (vp_nar .boolean x)) := by
    rw [← mj_w_set g M (mj_u M b i.toNatClampNeg (vp_nar .boolean x)) hs (mj_u_ne M), mj_u_eq]; rfl
  have hP2 : va_P (mj_D g) mj_cl (mj_w g (mj_u M b i.toNatClampNeg (vp_nar .boolean x))) H1 := e2 ▸ hP1
  have hD2 : va_D (mj_A g) (mj_w g (mj_u M b i.toNatClampNeg (vp_nar .boolean x))) := e2 ▸ hD1
  exact kk _ rfl q hq p e s m args below meth c hx hb hml hr hlk hown hts hK hT H1 locs1 ls hP2 hD2 hS1 hl
theorem mj_alen {b n : Nat} {v : Int32} (hs : mj_sh[b]? = some (.inl (.int, n))) (hv : Int32.ofNat n = v) (hd : decode cc pc = .ok (.arraylength, 1)) (kk : mj_X g po own cc nL ret d (pc + 1) L (.int v :: st) M o) : mj_X g po own cc nL ret d pc L (.ref b :: st) M o := by
  intro q hq p e s m args below meth c hx hb hml hr hlk hown hts hK hT H locs ls hP hD hS hl
  exact va_alen hx hb hK hP b b (mj_w_at g M hs) (mj_ty_at g hs) hv hd (kk q hq p e s m args below meth c hx hb hml hr hlk hown hts hK hT H locs ls hP hD hS hl)
theorem mj_ife {c : Prop} [hdc : Decidable c] {o1 o2 : Option R} (kt : c → mj_X g po own cc nL ret d pc L st M o1) (kf : ¬ c → mj_X g po own cc nL ret d pc L st M o2) : mj_X g po own cc nL ret d pc L st M (if c then o1 else o2) := by
  intro q hq
  by_cases h : c
  · rw [if_pos h] at hq; exact kt h q hq
  · rw [if_neg h] at hq; exact kf h q hq
theorem mj_ni {x k : Int32} {n : Int} (hk : k.toInt = n) (h : ¬ x = k) : x.toInt ≠ n := fun e => h (Int32.toInt_inj.mp (e.trans hk.symm))
theorem mj_k0 {x : Int32} : ∀ k ∈ ([] : List Int), x.toInt ≠ k := fun _ h => by cases h
theorem mj_k1 {x : Int32} {n : Int} {r : List Int} (h : x.toInt ≠ n) (t : ∀ k ∈ r, x.toInt ≠ k) : ∀ k ∈ n :: r, x.toInt ≠ k := List.forall_mem_cons.mpr ⟨h, t⟩
theorem mj_tswK {dflt lo hi : Int} {offs : Array Int} {len : Nat} {x k : Int32} {off : Int} {tgt : Nat} (h : x = k) (hd : decode cc pc = .ok (.tableswitch dflt lo hi offs, len)) (h1 : ¬ k.toInt < lo) (h2 : ¬ hi < k.toInt) (ho : offs[(k.toInt - lo).toNat]? = some off) (ht : (pc : Int) + off = (tgt : Int)) (kk : mj_X g po own cc nL ret d tgt L st M o) : mj_X g po own cc nL ret d pc L (.int x :: st) M o := by
  intro q hq p e s m args below meth c hx hb hml hr hlk hown hts hK hT H locs ls hP hD hS hl
  subst h
  exact lv_tableIn hx hb hd h1 h2 ho ht (kk q hq p e s m args below meth c hx hb hml hr hlk hown hts hK hT H locs ls hP hD hS hl)
theorem mj_tswD {dflt lo hi : Int} {offs : Array Int} {len : Nat} {x : Int32} {tgt : Nat} (keys : List Int) (hk : ∀ k ∈ keys, x.toInt ≠ k) (hd : decode cc pc = .ok (.tableswitch dflt lo hi offs, len)) (hsz : lo + (offs.size : Int) = hi + 1) (hall : (List.range offs.size).all (fun j => offs[j]? == some dflt || keys.contains (lo + (j : Int))) = true) (ht : (pc : Int) + dflt = (tgt : Int)) (kk : mj_X g po own cc nL ret d tgt L st M o) : mj_X g po own cc nL ret d pc L (.int x :: st) M o := by
  intro q hq p e s m args below meth c hx hb hml hr hlk hown hts hK hT H locs ls hP hD hS hl
  by_cases h1 : x.toInt < lo
  · exact lv_tableOut hx hb hd (Or.inl h1) ht (kk q hq p e s m args below meth c hx hb hml hr hlk hown hts hK hT H locs ls hP hD hS hl)
  · by_cases h2 : hi < x.toInt
    · exact lv_tableOut hx hb hd (Or.inr h2) ht (kk q hq p e s m args below meth c hx hb hml hr hlk hown hts hK hT H locs ls hP hD hS hl)
    · have hj : (x.toInt - lo).toNat < offs.size := by omega
      have h3 := List.all_eq_true.mp hall _ (List.mem_range.mpr hj)
      rw [Bool.or_eq_true] at h3
      rcases h3 with h3 | h3
      · exact lv_tableIn hx hb hd h1 h2 (by simpa using h3) ht (kk q hq p e s m args below meth c hx hb hml hr hlk hown hts hK hT H locs ls hP hD hS hl)
      · have h4 : lo + (((x.toInt - lo).toNat : Nat) : Int) = x.toInt := by omega
        rw [h4] at h3
        exact absurd rfl (hk _ (List.contains_iff_mem.mp h3))
theorem mj_lswK {dflt : Int} {ps : Array (Int × Int)} {len : Nat} {x k : Int32} {off : Int} {tgt : Nat} (h : x = k) (hd : decode cc pc = .ok (.lookupswitch dflt ps, len)) (hp : (ps.toList.zip (ps.toList.drop 1)).all (fun (a, next) => a.1 < next.1) = true) (ho : Op.lookupswitch.offset ps.toList dflt k.toInt = off) (ht : (pc : Int) + off = (tgt : Int)) (kk : mj_X g po own cc nL ret d tgt L st M o) : mj_X g po own cc nL ret d pc L (.int x :: st) M o := by
  intro q hq p e s m args below meth c hx hb hml hr hlk hown hts hK hT H locs ls hP hD hS hl
  subst h
  exact lv_lookup hx hb hd hp ho ht (kk q hq p e s m args below meth c hx hb hml hr hlk hown hts hK hT H locs ls hP hD hS hl)
theorem mj_off {dflt z : Int} : ∀ (ps : List (Int × Int)), (∀ k ∈ ps.map (fun q => q.1), z ≠ k) → Op.lookupswitch.offset ps dflt z = dflt
  | [], _ => rfl
  | (a, b) :: r, h => by
    rw [Op.lookupswitch.offset_cons, if_neg (fun e => h a (by simp) e.symm)]
    exact mj_off r (fun k hk => h k (by simp only [List.map_cons, List.mem_cons]; exact Or.inr hk))
theorem mj_lswD {dflt : Int} {ps : Array (Int × Int)} {len : Nat} {x : Int32} {tgt : Nat} (hk : ∀ k ∈ ps.toList.map (fun q => q.1), x.toInt ≠ k) (hd : decode cc pc = .ok (.lookupswitch dflt ps, len)) (hp : (ps.toList.zip (ps.toList.drop 1)).all (fun (a, next) => a.1 < next.1) = true) (ht : (pc : Int) + dflt = (tgt : Int)) (kk : mj_X g po own cc nL ret d tgt L st M o) : mj_X g po own cc nL ret d pc L (.int x :: st) M o := by
  intro q hq p e s m args below meth c hx hb hml hr hlk hown hts hK hT H locs ls hP hD hS hl
  exact lv_lookup hx hb hd hp (mj_off _ hk) ht (kk q hq p e s m args below meth c hx hb hml hr hlk hown hts hK hT H locs ls hP hD hS hl)
/-- ends -/
theorem mj_iret {q0 : Int32 × mj_M} {x : Int32} {g : mj_G} (hd : decode cc pc = .ok (.ireturn, 1)) (hret : ret = some .int) (h : q0 = (x, M)) : mj_X g (mj_qI g) own cc nL ret d pc L [.int x] M (some q0) := by
  intro q hq p e s m args below meth c hx hb hml hr hlk hown hts hK hT H locs ls hP hD hS hl
  cases hq; subst h; subst hret
  exact W.iret hx hb hr (fun t ht hW => ⟨⟨x, (), rfl, rfl, by rw [ht]; exact hP, va_K.moved hW.alike hK, hD, by rw [ht]; exact mj_ST_kept (mj_ST_moved hW.alike hT) hS.2.1⟩, hS.F ht⟩) hS.2.2 hd
theorem mj_zret {q0 : Int32 × mj_M} {x : Int32} {g : mj_G} (hz : x = 0 ∨ x = 1) (hd : decode cc pc = .ok (.ireturn, 1)) (hret : ret = some .boolean) (h : q0 = (x, M)) : mj_X g (mj_qI g) own cc nL ret d pc L [.int x] M (some q0) := by
  intro q hq p e s m args below meth c hx hb hml hr hlk hown hts hK hT H locs ls hP hD hS hl
  cases hq; subst h; subst hret
  exact W.zret hx hb hr (by rcases hz with rfl | rfl <;> rfl) (fun t ht hW => ⟨⟨x, (), rfl, rfl, by rw [ht]; exact hP, va_K.moved hW.alike hK, hD, by rw [ht]; exact mj_ST_kept (mj_ST_moved hW.alike hT) hS.2.1⟩, hS.F ht⟩) hS.2.2 hd
theorem mj_lret {q0 : Int64 × mj_M} {x : Int64} {g : mj_G} (hd : decode cc pc = .ok (.lreturn, 1)) (hret : ret = some .long) (h : q0 = (x, M)) : mj_X g (mj_qL g) own cc nL ret d pc L [.long x] M (some q0) := by
  intro q hq p e s m args below meth c hx hb hml hr hlk hown hts hK hT H locs ls hP hD hS hl
  cases hq; subst h; subst hret
  exact W.lret hx hb hr (fun t ht hW => ⟨⟨x, (), rfl, rfl, by rw [ht]; exact hP, va_K.moved hW.alike hK, hD, by rw [ht]; exact mj_ST_kept (mj_ST_moved hW.alike hT) hS.2.1⟩, hS.F ht⟩) hS.2.2 hd
theorem mj_vret {q0 : mj_M} {g : mj_G} (hd : decode cc pc = .ok (.return_, 1)) (hret : ret = none) (h : q0 = M) : mj_X g (mj_qV g) own cc nL ret d pc L [] M (some q0) := by
  intro q hq p e s m args below meth c hx hb hml hr hlk hown hts hK hT H locs ls hP hD hS hl
  cases hq; subst h; subst hret
  exact W.vret hx hb hr (fun t ht hW => ⟨⟨(), rfl, trivial, by rw [ht]; exact hP, va_K.moved hW.alike hK, hD, by rw [ht]; exact mj_ST_kept (mj_ST_moved hW.alike hT) hS.2.1⟩, hS.F ht⟩) hS.2.2 hd
end RulesH
