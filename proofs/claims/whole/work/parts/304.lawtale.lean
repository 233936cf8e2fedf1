/-! ===== the law's own tale ===== -/
abbrev c_L_tale : ByteArray := method_3_code
def y_L_tale : MethodName := ⟨"WinterTellersLaw", "tale", "(LWinterTellers;II[J)I"⟩
theorem dd_L_tale_0 : decode c_L_tale 0 = .ok (.aload_n 3, 1) := by decide +kernel
theorem dd_L_tale_1 : decode c_L_tale 1 = .ok (.iconst 0, 1) := by decide +kernel
theorem dd_L_tale_2 : decode c_L_tale 2 = .ok (.aload_n 0, 1) := by decide +kernel
theorem dd_L_tale_3 : decode c_L_tale 3 = .ok (.iload_n 1, 1) := by decide +kernel
theorem dd_L_tale_4 : decode c_L_tale 4 = .ok (.iload_n 2, 1) := by decide +kernel
theorem dd_L_tale_5 : decode c_L_tale 5 = .ok (.invokevirtual 7, 3) := by decide +kernel
theorem dd_L_tale_8 : decode c_L_tale 8 = .ok (.i2l, 1) := by decide +kernel
theorem dd_L_tale_9 : decode c_L_tale 9 = .ok (.lastore, 1) := by decide +kernel
theorem dd_L_tale_10 : decode c_L_tale 10 = .ok (.goto 7, 3) := by decide +kernel
theorem dd_L_tale_13 : decode c_L_tale 13 = .ok (.astore 4, 2) := by decide +kernel
theorem dd_L_tale_15 : decode c_L_tale 15 = .ok (.iconst 1, 1) := by decide +kernel
theorem dd_L_tale_16 : decode c_L_tale 16 = .ok (.ireturn, 1) := by decide +kernel
theorem dd_L_tale_17 : decode c_L_tale 17 = .ok (.iconst 0, 1) := by decide +kernel
theorem dd_L_tale_18 : decode c_L_tale 18 = .ok (.ireturn, 1) := by decide +kernel
theorem qy_c : Cond.codeWith y_L_tale c_L_tale 5 (some .int) [(0, 10, 13, 13)] ∈ mj_TT := mj_tt (List.mem_of_getElem? (i := 1098) (by decide +kernel)) (by decide +kernel)
theorem qy_l : Cond.methodLink "WinterTellersLaw" 7 y_W_tale ∈ mj_TT := mj_tt (List.mem_of_getElem? (i := 1100) (by decide +kernel)) (by decide +kernel)
theorem qy_k : Cond.classLink "WinterTellersLaw" 13 mj_E ∈ mj_TT := mj_tt (List.mem_of_getElem? (i := 1099) (by decide +kernel)) (by decide +kernel)
theorem mj_ofWH {l : Launch} {y : MethodName} {ws ws' : List Cond} {rm : Room} {Pc : Array Value → State → Prop} {Qc : Array Value → State → Outcome → State → Prop} {mc ms : Nat} {free : Addr → Prop} {cc : ByteArray} {maxL : Nat} {ret : Option FieldType} {hh : List (Nat × Nat × Nat × Nat)}
    (hy : plainName y.cls = true) (hw : ws = Cond.codeWith y cc maxL ret hh :: ws')
    (body : ∀ p e s m args below meth c s₁, BodyLoose p l y (headSpec ws rm) cc maxL ret e s m args below meth c s₁ → c.maxLocals = maxL → Pc args s →
      W p l e (headSpec ws rm).room s m args below meth c s.heap [] 0 0 (MQ below Qc args s mc ms free) (entryFrame m args maxL)) : Met l y ws rm Pc Qc mc ms free := by
  refine MetFree.of_bodyS (code := cc) (maxLocals := maxL) (ret := ret) hy ?_ ?_
  · intro args s m h hn
    obtain ⟨m9, meth, c, hn9, h1, h2, h3, h4, -, h5, h6, -⟩ := Cond.codeWith_spec (atoms_spec (ws := ws) h _ (by rw [hw]; exact List.mem_cons_self))
    cases hn.symm.trans hn9
    exact ⟨meth, c, h1, h2, h3, h4, h5, h6⟩
  · intro p e s m args below meth c s₁ B hml hP _
    have hh0 : s₁.heap = s.heap := by rw [B.state]; rfl
    obtain ⟨t, a1, o, b1, b2, b3⟩ := body p e s m args below meth c s₁ B hml hP s₁ hh0 (Stand.of_body B)
    exact ⟨t, o, a1, b1, b2, ⟨b3.1, b3.2⟩⟩
theorem mj_w_fst (g : mj_G) (M : mj_M) {k : Nat} {q : Nat × va_E} (h : (mj_w g M)[k]? = some q) : q.1 = mj_d g k ∧ k < mj_sh.length := by
  unfold mj_w at h
  rw [List.getElem?_mapIdx] at h
  obtain ⟨sp, h1, h2⟩ := Option.map_eq_some_iff.mp h
  rw [← h2]
  exact ⟨rfl, (List.getElem?_eq_some_iff.mp h1).1⟩
theorem mj_w_some (g : mj_G) (M : mj_M) {k : Nat} (h : k < mj_sh.length) : ∃ e, (mj_w g M)[k]? = some (mj_d g k, e) := by
  unfold mj_w
  rw [List.getElem?_mapIdx, List.getElem?_eq_getElem h]
  exact ⟨_, rfl⟩
theorem mj_D_any {g : mj_G} {A : Nat → Prop} {M M' : mj_M} (h : va_D A (mj_w g M)) : va_D A (mj_w g M') := by
  refine ⟨fun i j p q hi hj he => ?_, fun k q hk => ?_⟩
  · obtain ⟨e1, l1⟩ := mj_w_fst g M' hi
    obtain ⟨e2, l2⟩ := mj_w_fst g M' hj
    obtain ⟨c1, k1⟩ := mj_w_some g M l1
    obtain ⟨c2, k2⟩ := mj_w_some g M l2
    exact h.1 i j _ _ k1 k2 (by show mj_d g i = mj_d g j; rw [← e1, ← e2]; exact he)
  · obtain ⟨e1, l1⟩ := mj_w_fst g M' hk
    obtain ⟨c1, k1⟩ := mj_w_some g M l1
    rw [e1]; exact h.2 k _ k1
def mj_out (M : mj_M) (x : Int64) : mj_M := mj_u (mj_u M 73 0 (mj_hi x)) 73 1000 (mj_lo x)
theorem mj_P_out {g : mj_G} {M : mj_M} {H : Heap} {f : Nat → Int64} {x : Int64} (hf : f 0 = x) (h : va_P (mj_D g) mj_cl ((mj_w g M).set 73 (mj_d g 73, .inl (mj_c g 73, 1, .inr (.inl f)))) H) : va_P (mj_D g) mj_cl (mj_w g (mj_out M x)) H := by
  intro k q hk
  obtain ⟨e1, l1⟩ := mj_w_fst g _ hk
  by_cases h73 : k = 73
  · subst h73
    have h1 := h 73 (mj_d g 73, .inl (mj_c g 73, 1, .inr (.inl f))) (by
      rw [List.getElem?_set_self', mj_w_at g M sh_73]; rfl)
    rw [mj_w_at g _ sh_73] at hk
    cases hk
    have e3 : mj_cat (mj_out M x 73 0) (mj_out M x 73 (0 + 1000)) = x := by
      have a1 : mj_out M x 73 0 = mj_hi x := rfl
      have a2 : mj_out M x 73 (0 + 1000) = mj_lo x := rfl
      rw [a1, a2, mj_cat_eq]
    have e4 : vp_cell (mj_c g 73) (1, .inr (.inl f)) = vp_cell (mj_c g 73) (1, .inr (.inl (fun j => mj_cat (mj_out M x 73 j) (mj_out M x 73 (j + 1000))))) := by
      rw [vp_cell_l, vp_cell_l]
      have : ∀ u v : Nat → Int64, u 0 = v 0 → arrV (mj_c g 73) 1 (fun j => .long (u j)) = arrV (mj_c g 73) 1 (fun j => .long (v j)) := by
        intro u v huv
        unfold arrV
        simp [huv]
      exact this _ _ (hf.trans e3.symm)
    have h2 : H[mj_d g 73]? = some (vp_cell (mj_c g 73) (1, .inr (.inl f))) := h1
    rw [e4] at h2
    exact h2
  · refine h k q ?_
    rw [List.getElem?_set_ne (Ne.symm h73), ← hk]
    have e5 : mj_out M x k = M k := by unfold mj_out; rw [mj_u_ne _ k h73, mj_u_ne _ k h73]
    simp only [mj_w, List.getElem?_mapIdx, e5]
def mj_rY : Room := { frames := 22, cells := 1, slots := 6, locals := 1400 }
set_option maxHeartbeats 4000000 in
set_option maxRecDepth 100000 in
/-- the law's tale: 0 and the answer put out, or 1 -/
theorem Y_tale {g : mj_G} (hst : (mj_l g).stackTraces = false) (x1 x2 : Int32) (M : mj_M) (q : Int32 × mj_M) (hcase : (∃ v M1, F_W_tale x1 x2 M = some (v, M1) ∧ q = (0, mj_out M1 v.toInt64)) ∨ (F_Coast_hasTale x1 M = some (0, M) ∨ (∃ v, F_Coast_hasTale x1 M = some (v, M)) ∧ (x2 < 0 ∨ ¬ x2 ≤ 3)) ∧ q = (1, M)) :
    Met (mj_l g) y_L_tale (.codeWith y_L_tale c_L_tale 5 (some .int) [(0, 10, 13, 13)] :: mj_TT) mj_rY (va_Pc ([.ref 0, .int x1, .int x2, .ref 73].map (mj_v (mj_d g))) (fun U => mj_I g M U ∧ mj_EX g U)) (mj_qI g q) 1 6 (mj_A g) := by
  refine mj_ofWH (by decide +kernel) rfl ?_
  intro p e s m args below meth c s₁ B hml hv
  obtain ⟨rfl, ⟨hP, hK, hD, hT⟩, hE⟩ := hv
  have hx := B.exec
  have hb := B.bytes
  have hr := B.returns
  have hts0 := atoms_spec B.pre
  have hts : ∀ w ∈ mj_TT, w.before _ s = true := fun w h => hts0 w (List.mem_cons_of_mem _ h)
  have htab := vx_table (x := y_L_tale) B (hts0 _ List.mem_cons_self)
  have hown : s.vm.findClass "WinterTellersLaw" = some m.cls := findClass_of_methodNamed B.named
  have hlocks := B.notSynchronized
  have hS : va_S (mj_A g) s.heap s.heap [] := va_S.rf
  have hl := lv_entry ([.ref 0, .int x1, .int x2, .ref 73].map (mj_v (mj_d g))) (n := 5) (Nat.le_of_ble_eq_true rfl)
  rw [lg_entry_eq]
  generalize (lg_sl ([.ref 0, .int x1, .int x2, .ref 73].map (mj_v (mj_d g))) ++ List.replicate (5 - (lg_sl ([.ref 0, .int x1, .int x2, .ref 73].map (mj_v (mj_d g)))).length) Slot.unset).toArray = ls at hl ⊢
  have hl : lv_has ls 5 [(0, .ref (mj_d g 0)), (1, .int x1), (2, .int x2), (3, .ref (mj_d g 73))] := hl
  refine lv_aload_n hx hb dd_L_tale_0 rfl (lv_at hl 3 rfl) ?_
  refine lv_iconst (v := 0) hx hb dd_L_tale_1 (by decide) ?_
  refine lv_aload_n hx hb dd_L_tale_2 rfl (lv_at hl 0 rfl) ?_
  refine lv_iload_n hx hb dd_L_tale_3 rfl (lv_at hl 1 rfl) ?_
  refine lv_iload_n hx hb dd_L_tale_4 rfl (lv_at hl 2 rfl) ?_
  obtain ⟨h1, h2, h3, h4, h5, h6⟩ := ev_W_tale
  rcases hcase with ⟨v, M1, hF, rfl⟩ | ⟨hbad, rfl⟩
  · refine va_calli (va_runV (C := mj_R11) (As := [.int x1, .int x2]) (rest := [.int 0, .ref (mj_d g 73)]) ⟨hx, hb, hml, hown, hts⟩ (T_W_tale (g := g) 10 (by decide) x1 x2 M _ hF) ⟨⟨rfl, rfl, by decide, by decide, mj_good hts h1, List.mem_cons_self, hts _ h1, hts _ h2, ⟨h5.1, h5.2.1⟩, fun sig h => mj_pl h5.2.2 h, hts _ qy_l⟩, hts _ h3, hts _ h4⟩ ⟨mj_blind (as := [.ref 0, .int x1, .int x2]), va_recv hK hP cl_11 (mj_w_at g M sh_0), fun U hU hW => ⟨rfl, mj_I_at (args := #[]) hK hT hP hD hS hU hW⟩⟩ rfl rfl hl.1 rfl (lv_room (Nat.le_of_ble_eq_true rfl)) dd_L_tale_5 ⟨by decide, by decide⟩) hS (fun z _ h => h) (fun z h => h) (fun r u t H1 locs1 ht hvm hw2 hB hz1 hk1 hS1 => ?_)
    have hr1 : r = v := hw2
    subst hr1
    obtain ⟨hP1, hK1, hD1, hT1⟩ := hB
    rw [ht] at hP1
    refine lv_i2l hx hb dd_L_tale_8 rfl ?_
    refine va_last hx hb hK hP1 hD1 hS1 73 73 (mj_w_at g M1 sh_73) (mj_ty_at g sh_73) (by unfold vp_in; decide) dd_L_tale_9 (fun H2 locs2 hP2 hD2 hS2 => ?_)
    have hP3 := mj_P_out (x := r.toInt64) rfl hP2
    have hD3 : va_D (mj_A g) (mj_w g (mj_out M1 r.toInt64)) := mj_D_any hD1
    refine lv_goto (tgt := 17) hx hb dd_L_tale_10 rfl ?_
    refine lv_iconst (v := 0) hx hb dd_L_tale_17 (by decide) ?_
    refine W.widen (k := 1) (n := 6) (by decide) (by decide) ?_
    exact W.iret hx hb hr (fun t ht hW => ⟨⟨0, (), rfl, rfl, by rw [ht]; exact hP3, va_K.moved hW.alike hK, hD3, by rw [ht]; exact mj_ST_kept (mj_ST_moved hW.alike hT) hS2.2.1⟩, hS2.F ht⟩) hS2.2.2 dd_L_tale_18
  · refine vx_calli (vx_runV (C := mj_R11) (As := [.int x1, .int x2]) (rest := [.int 0, .ref (mj_d g 73)]) ⟨hx, hb, hml, hown, hts⟩ (X_tale hst x1 x2 M hbad) ⟨⟨rfl, rfl, by decide, by decide, mj_good hts h1, List.mem_cons_self, hts _ h1, hts _ h2, ⟨h5.1, h5.2.1⟩, fun sig h => mj_pl h5.2.2 h, hts _ qy_l⟩, hts _ h3, hts _ h4⟩ ⟨mj_blX (as := [.ref 0, .int x1, .int x2]), va_recv hK hP cl_11 (mj_w_at g M sh_0), fun U hU hW => ⟨rfl, mj_I_at (args := #[]) hK hT hP hD hS hU hW, mj_EXw hS hU hW hE⟩⟩ rfl rfl hl.1 rfl (lv_room (Nat.le_of_ble_eq_true rfl)) dd_L_tale_5 ⟨by decide, by decide⟩) hS (fun z _ h => h) (fun z h => h) (fun z _ h => h) (fun E ce q9 u t H1 locs1 ht hvm _ hB hz1 hk1 hS1 hce hcv hcl => ?_) (fun r u t H1 locs1 ht hvm hw2 hB hz1 hk1 hS1 => hw2.elim)
    obtain ⟨rfl, hP1, hK1, hD1, hT1⟩ := hB
    rw [ht] at hP1
    refine vx_catch (own := "WinterTellersLaw") (name := mj_E) hown [] _ [] htab (fun z hz => by cases hz) (by decide) (by decide) (hts _ qy_k) (va_Nw.use rfl hE.2.2.2.1) hce hcv hcl ?_
    refine lv_astore (lv' := [(4, .ref q9), (0, .ref (mj_d g 0)), (1, .int x1), (2, .int x2), (3, .ref (mj_d g 73))]) hx hb dd_L_tale_13 hl (by decide) rfl (fun ls hl => ?_)
    refine lv_iconst (v := 1) hx hb dd_L_tale_15 (by decide) ?_
    exact W.iret hx hb hr (fun t ht hW => ⟨⟨1, (), rfl, rfl, by rw [ht]; exact hP1, va_K.moved hW.alike hK, hD, by rw [ht]; exact mj_ST_kept (mj_ST_moved hW.alike hT) hS1.2.1⟩, hS1.F ht⟩) hS1.2.2 dd_L_tale_16
