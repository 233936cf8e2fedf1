/-! ===== tale ===== -/
abbrev mj_E : String := "java/util/NoSuchElementException"
def mj_xw : List Cond := vx_at0 "WinterTellers" 168 mj_E ["java/lang/RuntimeException", "java/lang/Exception"]
def mj_ng1 : Cond := .declares ⟨"java/lang/RuntimeException", "<init>", "()V"⟩
def mj_ng2 : Cond := .declares ⟨"java/lang/Exception", "<init>", "()V"⟩
def mj_ng3 : Cond := .declares ⟨"java/lang/Throwable", "<init>", "()V"⟩
def mj_ng4 : Cond := .castable mj_E mj_E
theorem mj_xg : ∀ w ∈ mj_xw.filter goodWord, w ∈ mj_TT := by
  intro w hw
  exact List.mem_filter.mpr ⟨(by decide +kernel : ∀ w ∈ mj_xw.filter goodWord, w ∈ lw_tbl) w hw, (List.mem_filter.mp hw).2⟩
theorem mj_xn : ∀ w ∈ mj_xw.filter (fun w => !goodWord w), w ∈ [mj_ng1, mj_ng2, mj_ng3, mj_ng4] := by decide +kernel
theorem mj_xo : ∀ w ∈ Cond.classLink "WinterTellers" 166 mj_E :: Cond.initialized mj_E :: mj_xw, vx_ot w = true := by decide +kernel
def mj_EX (g : mj_G) (U : State) : Prop := va_Nw mj_ng1 U ∧ va_Nw mj_ng2 U ∧ va_Nw mj_ng3 U ∧ va_Nw mj_ng4 U ∧ vx_Zq Bundle.tN "UNASSIGNED_STACK" Bundle.steD (mj_A g) U U.heap ∧ vx_Zq Bundle.tN "SUPPRESSED_SENTINEL" Bundle.listD (mj_A g) U U.heap
theorem mj_EXw {g : mj_G} {s U : State} {H : Heap} {locs : List Loc} (hS : va_S (mj_A g) s.heap H locs) (hU : U.heap = H) (hW : s.WarmedH U.vm) (h : mj_EX g s) : mj_EX g U := by
  obtain ⟨h1, h2, h3, h4, h5, h6⟩ := h
  refine ⟨va_Nw.warmD hW h1, va_Nw.warmD hW h2, va_Nw.warmD hW h3, va_Nw.warmC hW h4, ?_, ?_⟩
  · rw [hU]; exact vx_Zq.kept (vx_Zq.moved hW.alike h5) hS.2.1
  · rw [hU]; exact vx_Zq.kept (vx_Zq.moved hW.alike h6) hS.2.1
theorem mj_EXs {g : mj_G} {s U : State} (hv : s.vm = U.vm) (hh : s.heap = U.heap) (h : mj_EX g s) : mj_EX g U := by
  obtain ⟨h1, h2, h3, h4, h5, h6⟩ := h
  have ha : s.vm.Alike U.vm := by rw [hv]; exact Vm.Alike.refl _
  refine ⟨va_Nw.same rfl hv h1, va_Nw.same rfl hv h2, va_Nw.same rfl hv h3, va_Nw.same rfl hv h4, ?_, ?_⟩
  · rw [← hh]; exact vx_Zq.moved ha h5
  · rw [← hh]; exact vx_Zq.moved ha h6
theorem mj_blX {g : mj_G} {as : List Value} {M : mj_M} : FrameBlind (va_Pc (as.map (mj_v (mj_d g))) (fun U => mj_I g M U ∧ mj_EX g U)) := fun a U gf mk q => by
  obtain ⟨q0, ⟨qP, qK, qD, qT⟩, qE⟩ := q
  exact ⟨q0, ⟨qP, va_K.moved (u := U) (U := U.calling gf mk a) (Vm.Alike.refl U.vm) qK, qD, mj_ST_moved (u := U) (U := U.calling gf mk a) (Vm.Alike.refl U.vm) qT⟩, mj_EXs (s := U) (U := U.calling gf mk a) rfl rfl qE⟩
def mj_rX : Room := { frames := 20, cells := 1, slots := 6, locals := 1200 }
theorem qx_k : Cond.classLink "WinterTellers" 166 mj_E ∈ mj_TT := mj_tt (List.mem_of_getElem? (i := 1104) (by decide +kernel)) (by decide +kernel)
theorem qx_i : Cond.initialized mj_E ∈ mj_TT := mj_tt (List.mem_of_getElem? (i := 19) (by decide +kernel)) (by decide +kernel)
theorem de_20 : decode c_W_tale 20 = .ok (.new 166, 3) := by decide +kernel
theorem de_23 : decode c_W_tale 23 = .ok (.dup, 1) := by decide +kernel
theorem de_24 : decode c_W_tale 24 = .ok (.invokespecial 168, 3) := by decide +kernel
theorem de_27 : decode c_W_tale 27 = .ok (.athrow, 1) := by decide +kernel
set_option maxHeartbeats 4000000 in
set_option maxRecDepth 100000 in
/-- tale, where there is no such tale or no such thing of it: it throws, and leaves all as it was -/
theorem X_tale {g : mj_G} (hst : (mj_l g).stackTraces = false) (x1 x2 : Int32) (M : mj_M) (hbad : F_Coast_hasTale x1 M = some (0, M) ∨ (∃ v, F_Coast_hasTale x1 M = some (v, M)) ∧ (x2 < 0 ∨ ¬ x2 ≤ 3)) :
    vx_Met (mj_l g) y_W_tale (.code y_W_tale c_W_tale 3 (some .int) :: mj_TT) mj_rX (va_Pc ([.ref 0, .int x1, .int x2].map (mj_v (mj_d g))) (fun U => mj_I g M U ∧ mj_EX g U)) (va_Qi (fun _ (_ : Unit) => False) (fun _ _ => True) (mj_A g)) (vx_X (fun (_ : Unit) => True) (fun E _ t => E = mj_E ∧ mj_I g M t) (mj_A g)) 1 6 (mj_A g) := by
  refine vx_ofW (by decide +kernel) rfl ?_
  intro p e s m args below meth c s₁ B hml hte hv
  obtain ⟨rfl, ⟨hP, hK, hD, hT⟩, hE⟩ := hv
  have hx := B.exec
  have hb := B.bytes
  have hr := B.returns
  have hts0 := atoms_spec B.pre
  have hts : ∀ w ∈ mj_TT, w.before _ s = true := fun w h => hts0 w (List.mem_cons_of_mem _ h)
  have hown : s.vm.findClass "WinterTellers" = some m.cls := findClass_of_methodNamed B.named
  have hlocks := B.notSynchronized
  have hS : va_S (mj_A g) s.heap s.heap [] := va_S.rf
  have hl := lv_entry ([.ref 0, .int x1, .int x2].map (mj_v (mj_d g))) (n := 3) (Nat.le_of_ble_eq_true rfl)
  rw [lg_entry_eq]
  generalize (lg_sl ([.ref 0, .int x1, .int x2].map (mj_v (mj_d g))) ++ List.replicate (3 - (lg_sl ([.ref 0, .int x1, .int x2].map (mj_v (mj_d g)))).length) Slot.unset).toArray = ls at hl ⊢
  have hl : lv_has ls 3 [(0, .ref (mj_d g 0)), (1, .int x1), (2, .int x2)] := hl
  have hthrow : ∀ (H : Heap) (locs : List Loc), va_P (mj_D g) mj_cl (mj_w g M) H → va_S (mj_A g) s.heap H locs → W p (mj_l g) e mj_rX s m ([.ref 0, .int x1, .int x2].map (mj_v (mj_d g))).toArray below meth c H locs 0 0 (vx_MQ below (va_Qi (fun _ (_ : Unit) => False) (fun _ _ => True) (mj_A g)) (vx_X (fun (_ : Unit) => True) (fun E _ t => E = mj_E ∧ mj_I g M t) (mj_A g)) ([.ref 0, .int x1, .int x2].map (mj_v (mj_d g))).toArray s 1 6 (mj_A g)) (F0 m 20 ls []) := by
    intro H locs hP hS
    refine vx_throw0 (own := "WinterTellers") (cls := mj_E) (names := ["java/lang/RuntimeException", "java/lang/Exception"]) (ik := 166) (ic := 168) (A := mj_A g) hx hb hst hown (by decide +kernel) (by decide +kernel) (hts _ qx_k) (hts _ qx_i) ?_ mj_xo hE.2.2.2.2.1 hE.2.2.2.2.2 hS (by rw [hml]; exact hl.1) de_20 de_23 de_24 de_27 (fun x h => (hte x h).elim) (by decide) (Nat.le_of_ble_eq_true rfl) (by decide) (by decide) hlocks ?_ hS.2.2 (Nat.le_refl _) (Nat.le_refl _)
    · exact vx_hat (B := [mj_ng1, mj_ng2, mj_ng3, mj_ng4]) (fun w h => hts w (mj_xg w h)) mj_xn (vx_c (va_Nw.use rfl hE.1) (vx_c (va_Nw.use rfl hE.2.1) (vx_c (va_Nw.use rfl hE.2.2.1) (vx_c (va_Nw.use rfl hE.2.2.2.1) vx_n))))
    · intro t ha hz hk
      refine ⟨(), trivial, ⟨rfl, ?_, va_K.moved ha hK, hD, ?_⟩, ?_⟩
      · intro k q hq
        exact (hP k q hq).kept (hk q.1 (vx_lt hP hq))
      · exact mj_ST_kept (mj_ST_moved ha hT) (fun a h1 h2 => by rw [hk a (Nat.lt_of_lt_of_le h1 hS.1)]; exact hS.2.1 a h1 h2)
      · exact ⟨Nat.le_trans hS.1 hz, fun a h1 h2 => by rw [hk a (Nat.lt_of_lt_of_le h1 hS.1)]; exact hS.2.1 a h1 h2⟩
  have hq1 : ∃ v, F_Coast_hasTale x1 M = some (v, M) := by
    rcases hbad with h | ⟨h, -⟩
    · exact ⟨_, h⟩
    · exact h
  obtain ⟨v, hv1⟩ := hq1
  refine lv_aload_n hx hb dd_W_tale_0 rfl (lv_at hl 0 rfl) ?_
  refine va_get (ref := "WinterTellers") (v := .ref (mj_d g 13)) (C := mj_R11) (T := mj_T11) (N := 13) hx hb hts mj_i11 hown hK hP 0 (mj_w_at g M sh_0) cl_11 4 (by decide) (hts _ qf_W_42) (fun x h => h) rfl dd_W_tale_1 ?_
  refine lv_iload_n hx hb dd_W_tale_4 rfl (lv_at hl 1 rfl) ?_
  obtain ⟨h1, h2, h3, h4, h5, h6⟩ := ev_Coast_hasTale
  refine va_calli (va_runV (C := mj_R0) (As := [.int x1]) (rest := []) ⟨hx, hb, hml, hown, hts⟩ (T_Coast_hasTale (g := g) 5 (by decide) x1 M _ hv1) ⟨⟨rfl, rfl, by decide, by decide, mj_good hts h1, List.mem_cons_self, hts _ h1, hts _ h2, ⟨h5.1, h5.2.1⟩, fun sig h => mj_pl h5.2.2 h, hts _ ql_W_163⟩, hts _ h3, hts _ h4⟩ ⟨mj_blind (as := [.ref 13, .int x1]), va_recv hK hP cl_0 (mj_w_at g M sh_13), fun U hU hW => ⟨rfl, mj_I_at (args := #[]) hK hT hP hD hS hU hW⟩⟩ rfl rfl hl.1 rfl (lv_room (Nat.le_of_ble_eq_true rfl)) dd_W_tale_5 ⟨by decide, by decide⟩) hS (fun z _ h => h) (fun z h => h) (fun r u t H1 locs1 ht hvm hw2 hB hz1 hk1 hS1 => ?_)
  have hr1 : r = v := hw2
  subst hr1
  obtain ⟨hP1, hK1, hD1, hT1⟩ := hB
  rw [ht] at hP1
  refine lv_if_eq (tgt := 20) hx hb dd_W_tale_8 rfl (fun _ => hthrow H1 locs1 hP1 hS1) (fun h0 => ?_)
  refine lv_iload_n hx hb dd_W_tale_11 rfl (lv_at hl 2 rfl) ?_
  refine lv_if_lt (tgt := 20) hx hb dd_W_tale_12 rfl (fun _ => hthrow H1 locs1 hP1 hS1) (fun h7 => ?_)
  refine lv_iload_n hx hb dd_W_tale_15 rfl (lv_at hl 2 rfl) ?_
  refine lv_iconst (v := 3) hx hb dd_W_tale_16 (by decide) ?_
  refine lv_icmp_le (tgt := 28) hx hb dd_W_tale_17 rfl (fun h8 => ?_) (fun _ => hthrow H1 locs1 hP1 hS1)
  exfalso
  rcases hbad with h | ⟨-, h | h⟩
  · rw [hv1] at h; cases h; exact h0 rfl
  · exact h7 h
  · exact h h8
