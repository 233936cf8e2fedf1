/-! ===== the rules of X: calls ===== -/
/-- what a method of the class C must have in the tables to be called on an object -/
def mj_EV (C : String) (y : MethodName) (bytes : ByteArray) (maxL : Nat) (ret : Option FieldType) (n : Nat) : Prop :=
  Cond.code y bytes maxL ret ∈ mj_TT ∧ Cond.initialized y.cls ∈ mj_TT ∧ Cond.instanceMethod y ∈ mj_TT ∧ Cond.selects C y y ∈ mj_TT ∧ (y.cls ≠ "java/lang/invoke/MethodHandle" ∧ y.cls ≠ "java/lang/invoke/VarHandle" ∧ (parseMethodDescriptor y.desc).map (fun d => d.parameters.length) = some n) ∧ maxL ≤ 40
def mj_ES (y : MethodName) (bytes : ByteArray) (maxL : Nat) (ret : Option FieldType) (n : Nat) : Prop :=
  Cond.code y bytes maxL ret ∈ mj_TT ∧ Cond.initialized y.cls ∈ mj_TT ∧ Cond.static y ∈ mj_TT ∧ (y.cls ≠ "java/lang/invoke/MethodHandle" ∧ y.cls ≠ "java/lang/invoke/VarHandle" ∧ (parseMethodDescriptor y.desc).map (fun d => d.parameters.length) = some n) ∧ maxL ≤ 40
theorem mj_good {y : MethodName} {bytes : ByteArray} {maxL : Nat} {ret : Option FieldType} {args : Array Value} {s : State} (hts : ∀ w ∈ mj_TT, w.before args s = true) (hcd : Cond.code y bytes maxL ret ∈ mj_TT) : ∀ w ∈ (Cond.code y bytes maxL ret :: mj_TT), ∀ (a' : Array Value) (U : State), s.WarmedH U.vm → w.before a' U = true := by
  refine pay_in hts fun w hw => ?_
  have h1 : w ∈ mj_TT := (List.mem_cons.mp hw).elim (fun e => e ▸ hcd) id
  exact ⟨h1, good_of_word (List.mem_filter.mp h1).2⟩
theorem mj_blind {g : mj_G} {as : List Value} {M : mj_M} : FrameBlind (va_Pc (as.map (mj_v (mj_d g))) (mj_I g M)) := fun a U gf mk q => by
  obtain ⟨q0, qP, qK, qD, qT⟩ := q
  exact ⟨q0, qP, va_K.moved (u := U) (U := U.calling gf mk a) (Vm.Alike.refl U.vm) qK, qD, mj_ST_moved (u := U) (U := U.calling gf mk a) (Vm.Alike.refl U.vm) qT⟩
section RulesC
variable {R : Type} {g : mj_G} {po : R → Array Value → State → Outcome → State → Prop} {own : String} {cc : ByteArray} {nL : Nat} {ret : Option FieldType} {d pc : Nat} {L : List (Nat × Value)} {st : List Value} {M : mj_M} {o : Option R}
variable {y : MethodName} {bytes : ByteArray} {maxL n idx : Nat} {rt : Option FieldType}
theorem mj_callB {args : Array Value} {s : State} (hts : ∀ w ∈ mj_TT, w.before args s = true) (hcd : Cond.code y bytes maxL rt ∈ mj_TT) (hini : Cond.initialized y.cls ∈ mj_TT) (hd0 : y.cls ≠ "java/lang/invoke/MethodHandle" ∧ y.cls ≠ "java/lang/invoke/VarHandle" ∧ (parseMethodDescriptor y.desc).map (fun d => d.parameters.length) = some n) (hmx : maxL ≤ 40) (hl0 : Cond.methodLink own idx y ∈ mj_TT) : CallB (mj_rm (d + 1)) s args own idx y bytes maxL rt (.code y bytes maxL rt :: mj_TT) (mj_rm d) 0 0 n := by
  refine ⟨rfl, rfl, Nat.le_refl _, ?_, mj_good hts hcd, List.mem_cons_self, hts _ hcd, hts _ hini, ⟨hd0.1, hd0.2.1⟩, fun sig h => ?_, hts _ hl0⟩
  · show 8 + (maxL + 11) + 60 * d ≤ 60 * (d + 1)
    omega
  · have h2 := hd0.2.2
    rw [h] at h2
    exact (Option.some.inj h2).symm
theorem mj_I_at {args : Array Value} {s U : State} {H : Heap} {locs : List Loc} (hK : va_K (mj_D g) mj_cl (mj_ty g) s) (hT : mj_ST g s s.heap) (hP : va_P (mj_D g) mj_cl (mj_w g M) H) (hD : va_D (mj_A g) (mj_w g M)) (hS : va_S (mj_A g) s.heap H locs) (hU : U.heap = H) (hW : s.WarmedH U.vm) : mj_I g M U :=
  ⟨by rw [hU]; exact hP, va_K.moved hW.alike hK, hD, by rw [hU]; exact mj_ST_kept (mj_ST_moved hW.alike hT) hS.2.1⟩
theorem mj_cats {ad : Nat → Nat} (st : List Value) : ((st.map (mj_v ad)).map fun v => v.category).sum = (st.map fun v => v.category).sum := by
  rw [List.map_map]
  congr 1
  exact List.map_congr_left fun v _ => mj_vcat ad v
theorem mj_callVI {As : List Value} {o1 : Option (Int32 × mj_M)} {f : Int32 × mj_M → Option R} {b ci N : Nat} {C : String} {T : u_T} {ks : List Nat} (hs : mj_sh[b]? = some (.inr (ci, ks))) (hc : mj_cl[ci]? = some (C, T, N)) (hE : mj_EV C y bytes maxL rt n) (hl0 : Cond.methodLink own idx y ∈ mj_TT) (hn : As.length = n) (hw : (st.map fun v => v.category).sum ≤ 8) (hM : mj_Mt g (mj_qI g) d y bytes maxL rt (.ref b :: As) M o1) (hd : decode cc pc = .ok (.invokevirtual idx, 3)) (kk : ∀ q, o1 = some q → mj_X g po own cc nL ret d (pc + 3) L (.int q.1 :: st) q.2 (f q)) : mj_X g po own cc nL ret d pc L (As.reverse ++ .ref b :: st) M (o1.bind f) := by
  intro q hq p e s m args below meth c hx hb hml hr hlk hown hts hK hT H locs ls hP hD hS hl
  obtain ⟨q1, hq1, hq2⟩ := Option.bind_eq_some_iff.mp hq
  obtain ⟨h1, h2, h3, h4, h5, h6⟩ := hE
  have est : (As.reverse ++ .ref b :: st).map (mj_v (mj_d g)) = (As.map (mj_v (mj_d g))).reverse ++ .ref (mj_d g b) :: st.map (mj_v (mj_d g)) := by
    rw [List.map_append, List.map_reverse, List.map_cons]; rfl
  rw [est]
  refine va_calli (va_runV (C := C) (As := As.map (mj_v (mj_d g))) (rest := st.map (mj_v (mj_d g))) ⟨hx, hb, hml, hown, hts⟩ (hM q1 hq1) ⟨mj_callB hts h1 h2 h5 h6 hl0, hts _ h3, hts _ h4⟩ ⟨mj_blind, va_recv hK hP hc (mj_w_at g M hs), fun U hU hW => ⟨rfl, mj_I_at (args := args) hK hT hP hD hS hU hW⟩⟩ rfl (by rw [List.length_map]; exact hn) hl.1 rfl (lv_room (by rw [mj_cats]; exact hw)) hd ⟨Nat.le_refl _, Nat.le_refl _⟩) hS (fun z _ h => h) (fun z h => h) (fun r u t H1 locs1 ht hvm hw2 hB hz1 hk1 hS1 => ?_)
  subst hw2
  obtain ⟨hP1, hK1, hD1, hT1⟩ := hB
  rw [ht] at hP1
  exact kk q1 hq1 q hq2 p e s m args below meth c hx hb hml hr hlk hown hts hK hT H1 locs1 ls hP1 hD1 hS1 hl
theorem mj_callVV {As : List Value} {o1 : Option (mj_M)} {f : mj_M → Option R} {b ci N : Nat} {C : String} {T : u_T} {ks : List Nat} (hs : mj_sh[b]? = some (.inr (ci, ks))) (hc : mj_cl[ci]? = some (C, T, N)) (hE : mj_EV C y bytes maxL rt n) (hl0 : Cond.methodLink own idx y ∈ mj_TT) (hn : As.length = n) (hw : (st.map fun v => v.category).sum ≤ 8) (hM : mj_Mt g (mj_qV g) d y bytes maxL rt (.ref b :: As) M o1) (hd : decode cc pc = .ok (.invokevirtual idx, 3)) (kk : ∀ q, o1 = some q → mj_X g po own cc nL ret d (pc + 3) L (st) q (f q)) : mj_X g po own cc nL ret d pc L (As.reverse ++ .ref b :: st) M (o1.bind f) := by
  intro q hq p e s m args below meth c hx hb hml hr hlk hown hts hK hT H locs ls hP hD hS hl
  obtain ⟨q1, hq1, hq2⟩ := Option.bind_eq_some_iff.mp hq
  obtain ⟨h1, h2, h3, h4, h5, h6⟩ := hE
  have est : (As.reverse ++ .ref b :: st).map (mj_v (mj_d g)) = (As.map (mj_v (mj_d g))).reverse ++ .ref (mj_d g b) :: st.map (mj_v (mj_d g)) := by
    rw [List.map_append, List.map_reverse, List.map_cons]; rfl
  rw [est]
  refine va_callv (va_runV (C := C) (As := As.map (mj_v (mj_d g))) (rest := st.map (mj_v (mj_d g))) ⟨hx, hb, hml, hown, hts⟩ (hM q1 hq1) ⟨mj_callB hts h1 h2 h5 h6 hl0, hts _ h3, hts _ h4⟩ ⟨mj_blind, va_recv hK hP hc (mj_w_at g M hs), fun U hU hW => ⟨rfl, mj_I_at (args := args) hK hT hP hD hS hU hW⟩⟩ rfl (by rw [List.length_map]; exact hn) hl.1 rfl (lv_room (by rw [mj_cats]; exact hw)) hd ⟨Nat.le_refl _, Nat.le_refl _⟩) hS (fun z _ h => h) (fun z h => h) (fun u t H1 locs1 ht hvm hw2 hB hz1 hk1 hS1 => ?_)
  obtain ⟨hP1, hK1, hD1, hT1⟩ := hB
  rw [ht] at hP1
  exact kk q1 hq1 q hq2 p e s m args below meth c hx hb hml hr hlk hown hts hK hT H1 locs1 ls hP1 hD1 hS1 hl
theorem mj_callVL {As : List Value} {o1 : Option (Int64 × mj_M)} {f : Int64 × mj_M → Option R} {b ci N : Nat} {C : String} {T : u_T} {ks : List Nat} (hs : mj_sh[b]? = some (.inr (ci, ks))) (hc : mj_cl[ci]? = some (C, T, N)) (hE : mj_EV C y bytes maxL rt n) (hl0 : Cond.methodLink own idx y ∈ mj_TT) (hn : As.length = n) (hw : (st.map fun v => v.category).sum ≤ 8) (hM : mj_Mt g (mj_qL g) d y bytes maxL rt (.ref b :: As) M o1) (hd : decode cc pc = .ok (.invokevirtual idx, 3)) (kk : ∀ q, o1 = some q → mj_X g po own cc nL ret d (pc + 3) L (.long q.1 :: st) q.2 (f q)) : mj_X g po own cc nL ret d pc L (As.reverse ++ .ref b :: st) M (o1.bind f) := by
  intro q hq p e s m args below meth c hx hb hml hr hlk hown hts hK hT H locs ls hP hD hS hl
  obtain ⟨q1, hq1, hq2⟩ := Option.bind_eq_some_iff.mp hq
  obtain ⟨h1, h2, h3, h4, h5, h6⟩ := hE
  have est : (As.reverse ++ .ref b :: st).map (mj_v (mj_d g)) = (As.map (mj_v (mj_d g))).reverse ++ .ref (mj_d g b) :: st.map (mj_v (mj_d g)) := by
    rw [List.map_append, List.map_reverse, List.map_cons]; rfl
  rw [est]
  refine va_calll (va_runV (C := C) (As := As.map (mj_v (mj_d g))) (rest := st.map (mj_v (mj_d g))) ⟨hx, hb, hml, hown, hts⟩ (hM q1 hq1) ⟨mj_callB hts h1 h2 h5 h6 hl0, hts _ h3, hts _ h4⟩ ⟨mj_blind, va_recv hK hP hc (mj_w_at g M hs), fun U hU hW => ⟨rfl, mj_I_at (args := args) hK hT hP hD hS hU hW⟩⟩ rfl (by rw [List.length_map]; exact hn) hl.1 rfl (lv_room (by rw [mj_cats]; exact hw)) hd ⟨Nat.le_refl _, Nat.le_refl _⟩) hS (fun z _ h => h) (fun z h => h) (fun r u t H1 locs1 ht hvm hw2 hB hz1 hk1 hS1 => ?_)
  subst hw2
  obtain ⟨hP1, hK1, hD1, hT1⟩ := hB
  rw [ht] at hP1
  exact kk q1 hq1 q hq2 p e s m args below meth c hx hb hml hr hlk hown hts hK hT H1 locs1 ls hP1 hD1 hS1 hl
theorem mj_callSI {As : List Value} {o1 : Option (Int32 × mj_M)} {f : Int32 × mj_M → Option R} (hE : mj_ES y bytes maxL rt n) (hl0 : Cond.methodLink own idx y ∈ mj_TT) (hn : As.length = n) (hw : (st.map fun v => v.category).sum ≤ 8) (hM : mj_Mt g (mj_qI g) d y bytes maxL rt (As) M o1) (hd : decode cc pc = .ok (.invokestatic idx, 3)) (kk : ∀ q, o1 = some q → mj_X g po own cc nL ret d (pc + 3) L (.int q.1 :: st) q.2 (f q)) : mj_X g po own cc nL ret d pc L (As.reverse ++ st) M (o1.bind f) := by
  intro q hq p e s m args below meth c hx hb hml hr hlk hown hts hK hT H locs ls hP hD hS hl
  obtain ⟨q1, hq1, hq2⟩ := Option.bind_eq_some_iff.mp hq
  obtain ⟨h1, h2, h3, h5, h6⟩ := hE
  have est : (As.reverse ++ st).map (mj_v (mj_d g)) = (As.map (mj_v (mj_d g))).reverse ++ st.map (mj_v (mj_d g)) := by
    rw [List.map_append, List.map_reverse]
  rw [est]
  refine va_calli (va_runS (As := As.map (mj_v (mj_d g))) (rest := st.map (mj_v (mj_d g))) ⟨hx, hb, hml, hown, hts⟩ (hM q1 hq1) ⟨mj_callB hts h1 h2 h5 h6 hl0, hts _ h3⟩ ⟨mj_blind, fun U hU hW => ⟨rfl, mj_I_at (args := args) hK hT hP hD hS hU hW⟩⟩ rfl (by rw [List.length_map]; exact hn) hl.1 rfl (lv_room (by rw [mj_cats]; exact hw)) hd ⟨Nat.le_refl _, Nat.le_refl _⟩) hS (fun z _ h => h) (fun z h => h) (fun r u t H1 locs1 ht hvm hw2 hB hz1 hk1 hS1 => ?_)
  subst hw2
  obtain ⟨hP1, hK1, hD1, hT1⟩ := hB
  rw [ht] at hP1
  exact kk q1 hq1 q hq2 p e s m args below meth c hx hb hml hr hlk hown hts hK hT H1 locs1 ls hP1 hD1 hS1 hl
theorem mj_callSV {As : List Value} {o1 : Option (mj_M)} {f : mj_M → Option R} (hE : mj_ES y bytes maxL rt n) (hl0 : Cond.methodLink own idx y ∈ mj_TT) (hn : As.length = n) (hw : (st.map fun v => v.category).sum ≤ 8) (hM : mj_Mt g (mj_qV g) d y bytes maxL rt (As) M o1) (hd : decode cc pc = .ok (.invokestatic idx, 3)) (kk : ∀ q, o1 = some q → mj_X g po own cc nL ret d (pc + 3) L (st) q (f q)) : mj_X g po own cc nL ret d pc L (As.reverse ++ st) M (o1.bind f) := by
  intro q hq p e s m args below meth c hx hb hml hr hlk hown hts hK hT H locs ls hP hD hS hl
  obtain ⟨q1, hq1, hq2⟩ := Option.bind_eq_some_iff.mp hq
  obtain ⟨h1, h2, h3, h5, h6⟩ := hE
  have est : (As.reverse ++ st).map (mj_v (mj_d g)) = (As.map (mj_v (mj_d g))).reverse ++ st.map (mj_v (mj_d g)) := by
    rw [List.map_append, List.map_reverse]
  rw [est]
  refine va_callv (va_runS (As := As.map (mj_v (mj_d g))) (rest := st.map (mj_v (mj_d g))) ⟨hx, hb, hml, hown, hts⟩ (hM q1 hq1) ⟨mj_callB hts h1 h2 h5 h6 hl0, hts _ h3⟩ ⟨mj_blind, fun U hU hW => ⟨rfl, mj_I_at (args := args) hK hT hP hD hS hU hW⟩⟩ rfl (by rw [List.length_map]; exact hn) hl.1 rfl (lv_room (by rw [mj_cats]; exact hw)) hd ⟨Nat.le_refl _, Nat.le_refl _⟩) hS (fun z _ h => h) (fun z h => h) (fun u t H1 locs1 ht hvm hw2 hB hz1 hk1 hS1 => ?_)
  obtain ⟨hP1, hK1, hD1, hT1⟩ := hB
  rw [ht] at hP1
  exact kk q1 hq1 q hq2 p e s m args below meth c hx hb hml hr hlk hown hts hK hT H1 locs1 ls hP1 hD1 hS1 hl
theorem mj_callSL {As : List Value} {o1 : Option (Int64 × mj_M)} {f : Int64 × mj_M → Option R} (hE : mj_ES y bytes maxL rt n) (hl0 : Cond.methodLink own idx y ∈ mj_TT) (hn : As.length = n) (hw : (st.map fun v => v.category).sum ≤ 8) (hM : mj_Mt g (mj_qL g) d y bytes maxL rt (As) M o1) (hd : decode cc pc = .ok (.invokestatic idx, 3)) (kk : ∀ q, o1 = some q → mj_X g po own cc nL ret d (pc + 3) L (.long q.1 :: st) q.2 (f q)) : mj_X g po own cc nL ret d pc L (As.reverse ++ st) M (o1.bind f) := by
  intro q hq p e s m args below meth c hx hb hml hr hlk hown hts hK hT H locs ls hP hD hS hl
  obtain ⟨q1, hq1, hq2⟩ := Option.bind_eq_some_iff.mp hq
  obtain ⟨h1, h2, h3, h5, h6⟩ := hE
  have est : (As.reverse ++ st).map (mj_v (mj_d g)) = (As.map (mj_v (mj_d g))).reverse ++ st.map (mj_v (mj_d g)) := by
    rw [List.map_append, List.map_reverse]
  rw [est]
  refine va_calll (va_runS (As := As.map (mj_v (mj_d g))) (rest := st.map (mj_v (mj_d g))) ⟨hx, hb, hml, hown, hts⟩ (hM q1 hq1) ⟨mj_callB hts h1 h2 h5 h6 hl0, hts _ h3⟩ ⟨mj_blind, fun U hU hW => ⟨rfl, mj_I_at (args := args) hK hT hP hD hS hU hW⟩⟩ rfl (by rw [List.length_map]; exact hn) hl.1 rfl (lv_room (by rw [mj_cats]; exact hw)) hd ⟨Nat.le_refl _, Nat.le_refl _⟩) hS (fun z _ h => h) (fun z h => h) (fun r u t H1 locs1 ht hvm hw2 hB hz1 hk1 hS1 => ?_)
  subst hw2
  obtain ⟨hP1, hK1, hD1, hT1⟩ := hB
  rw [ht] at hP1
  exact kk q1 hq1 q hq2 p e s m args below meth c hx hb hml hr hlk hown hts hK hT H1 locs1 ls hP1 hD1 hS1 hl
end RulesC
