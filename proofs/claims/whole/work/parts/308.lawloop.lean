/-! ===== the law: tale, the loop ===== -/
def mo_0 (N : Nat) (Inv : mj_M → Prop) : Prop := ∀ M, Inv M → ∀ (a1 : Int32) (a2 : Int32) (a3 : Int32) (a4 : Int32) (a5 : Int32), ∃ r M1 M2, F_W_feed N a1 a2 a3 a4 a5 M = some (r, M1) ∧ F_M_feed N a1 a2 a3 a4 a5 M1 = some (r, M2) ∧ Inv M2
def mo_1 (N : Nat) (Inv : mj_M → Prop) : Prop := ∀ M, Inv M → ∀ (a1 : Int32), ∃ r M1 M2, F_W_end a1 M = some (r, M1) ∧ F_M_end a1 M1 = some (r, M2) ∧ Inv M2
def mo_2 (N : Nat) (Inv : mj_M → Prop) : Prop := ∀ M, Inv M → ∀ (a1 : Int32), ∃ r M1 M2, F_W_fault N a1 M = some (r, M1) ∧ F_M_fault N a1 M1 = some (r, M2) ∧ Inv M2
def mo_3 (N : Nat) (Inv : mj_M → Prop) : Prop := ∀ M, Inv M → ∀ (a1 : Int32), ∃ r M1 M2, F_W_text N a1 M = some (r, M1) ∧ F_M_text N a1 M1 = some (r, M2) ∧ Inv M2
def mo_4 (N : Nat) (Inv : mj_M → Prop) : Prop := ∀ M, Inv M → ∀ (a1 : Int32) (a2 : Int32), ∃ r M1 M2, F_W_house N a1 a2 M = some (r, M1) ∧ F_M_house N a1 a2 M1 = some (r, M2) ∧ Inv M2
def mo_5 (N : Nat) (Inv : mj_M → Prop) : Prop := ∀ M, Inv M → ∀ a1 a2 : Int32, (∃ v M1 M2 M3, F_W_tale a1 a2 M = some (v, M1) ∧ F_M_tale a1 a2 (mj_out M1 v.toInt64) = some (v, M2) ∧ F_M_thrown M2 = some (0, M3) ∧ M3 73 = mj_out M1 v.toInt64 73 ∧ Inv M3) ∨ ((F_Coast_hasTale a1 M = some (0, M) ∨ (∃ v, F_Coast_hasTale a1 M = some (v, M)) ∧ (a2 < 0 ∨ ¬ a2 ≤ 3)) ∧ ∃ v M2 M3, F_M_tale a1 a2 M = some (v, M2) ∧ F_M_thrown M2 = some (1, M3) ∧ Inv M3)
def mo_6 (N : Nat) (Inv : mj_M → Prop) : Prop := ∀ M, Inv M → ∀ (a1 : Int32) (a2 : Int32), ∃ r M1 M2, F_W_heard a1 a2 M = some (r, M1) ∧ F_M_heard a1 a2 M1 = some (r, M2) ∧ Inv M2
def mo_7 (N : Nat) (Inv : mj_M → Prop) : Prop := ∀ M, Inv M → ∀ (a1 : Int32) (a2 : Int32), ∃ r M1 M2, F_W_nights N a1 a2 M = some (r, M1) ∧ F_M_nights N a1 a2 M1 = some (r, M2) ∧ Inv M2
def mo_8 (N : Nat) (Inv : mj_M → Prop) : Prop := ∀ M, Inv M → ∀ (a1 : Int32), ∃ r M1 M2, F_W_law a1 M = some (r, M1) ∧ F_M_law a1 M1 = some (r, M2) ∧ Inv M2
def mo_9 (N : Nat) (Inv : mj_M → Prop) : Prop := ∀ M, Inv M → ∀ (a1 : Int32), ∃ r M1 M2, F_W_tells N a1 M = some (r, M1) ∧ F_M_tells N a1 M1 = some (r, M2) ∧ Inv M2
def mo_10 (N : Nat) (Inv : mj_M → Prop) : Prop := ∀ M, Inv M → ∀ (a1 : Int32), ∃ r M1 M2, F_W_goes a1 M = some (r, M1) ∧ F_M_goes N a1 M1 = some (r, M2) ∧ Inv M2
def mo_11 (N : Nat) (Inv : mj_M → Prop) : Prop := ∀ M, Inv M → ∀ (a1 : Int32), ∃ r M1 M2, F_W_learns a1 M = some (r, M1) ∧ F_M_learns N a1 M1 = some (r, M2) ∧ Inv M2
def mo_12 (N : Nat) (Inv : mj_M → Prop) : Prop := ∀ M, Inv M → ∀ (a1 : Int32), ∃ r M1 M2, F_W_ties a1 M = some (r, M1) ∧ F_M_ties N a1 M1 = some (r, M2) ∧ Inv M2
def mo_13 (N : Nat) (Inv : mj_M → Prop) : Prop := ∀ M, Inv M → ∃ r M1 M2, F_W_rest M = some (r, M1) ∧ F_M_rest N M1 = some (r, M2) ∧ Inv M2
def mo_14 (N : Nat) (Inv : mj_M → Prop) : Prop := ∀ M, Inv M → ∀ (a1 : Int32), ∃ r M1 M2, F_W_give a1 M = some (r, M1) ∧ F_M_give N a1 M1 = some (r, M2) ∧ Inv M2
def mo_15 (N : Nat) (Inv : mj_M → Prop) : Prop := ∀ M, Inv M → ∀ (a1 : Int32), ∃ r M1 M2, F_W_whys a1 M = some (r, M1) ∧ F_M_whys a1 M1 = some (r, M2) ∧ Inv M2
def mo_16 (N : Nat) (Inv : mj_M → Prop) : Prop := ∀ M, Inv M → ∀ (a1 : Int32) (a2 : Int32) (a3 : Int32), ∃ r M1 M2, F_W_years N a1 (((a2.toInt64) <<< 32) ||| ((a3.toInt64) &&& (4294967295 : Int64))) M = some (r, M1) ∧ F_M_years N a1 (((a2.toInt64) <<< 32) ||| ((a3.toInt64) &&& (4294967295 : Int64))) M1 = some (r, M2) ∧ Inv M2
def mo_17 (N : Nat) (Inv : mj_M → Prop) : Prop := ∀ M, Inv M → ∀ (a1 : Int32), ∃ r M1 M2, F_W_status a1 M = some (r, M1) ∧ F_M_status a1 M1 = some (r, M2) ∧ Inv M2
def mo_18 (N : Nat) (Inv : mj_M → Prop) : Prop := ∀ M, Inv M → ∃ r M1 M2, F_W_undo M = some (r, M1) ∧ F_M_undo N M1 = some (r, M2) ∧ Inv M2
def mo_19 (N : Nat) (Inv : mj_M → Prop) : Prop := ∀ M, Inv M → ∀ (a1 : Int32) (a2 : Int32), ∃ r M1 M2, F_W_log a1 a2 M = some (r, M1) ∧ F_M_log a1 a2 M1 = some (r, M2) ∧ Inv M2
def mo_20 (N : Nat) (Inv : mj_M → Prop) : Prop := ∀ M, Inv M → ∀ (a1 : Int32) (a2 : Int32), ∃ r M1 M2, F_W_best N a1 a2 M = some (r, M1) ∧ F_M_best N a1 a2 M1 = some (r, M2) ∧ Inv M2
def mo_21 (N : Nat) (Inv : mj_M → Prop) : Prop := ∀ M, Inv M → ∀ (a1 : Int32), ∃ r M1 M2, F_W_two N a1 M = some (r, M1) ∧ F_M_two N a1 M1 = some (r, M2) ∧ Inv M2
def mo_22 (N : Nat) (Inv : mj_M → Prop) : Prop := ∀ M, Inv M → ∀ (a1 : Int32), ∃ r M1 M2, F_W_places N a1 M = some (r, M1) ∧ F_M_places N a1 M1 = some (r, M2) ∧ Inv M2
def mo_23 (N : Nat) (Inv : mj_M → Prop) : Prop := ∀ M, Inv M → ∀ (a1 : Int32), ∃ r M1 M2, F_W_fewest N a1 M = some (r, M1) ∧ F_M_fewest N a1 M1 = some (r, M2) ∧ Inv M2
def mo_24 (N : Nat) (Inv : mj_M → Prop) : Prop := ∀ M, Inv M → ∀ (a1 : Int32) (a2 : Int32) (z : Int32), z = 0 ∨ z = 1 → ∃ r M1 M2, F_W_seen a1 a2 z M = some (r, M1) ∧ F_M_seen a1 a2 z M1 = some (r, M2) ∧ Inv M2
def mo_25 (N : Nat) (Inv : mj_M → Prop) : Prop := ∀ M, Inv M → ∀ (a1 : Int32), ∃ r M1 M2, F_W_told N a1 M = some (r, M1) ∧ F_M_told N a1 M1 = some (r, M2) ∧ Inv M2
def mo_26 (N : Nat) (Inv : mj_M → Prop) : Prop := ∀ M, Inv M → ∀ (a1 : Int32), ∃ r M1 M2, F_W_ask N a1 M = some (r, M1) ∧ F_M_ask N a1 M1 = some (r, M2) ∧ Inv M2
def mo_27 (N : Nat) (Inv : mj_M → Prop) : Prop := ∀ M, Inv M → ∀ (a1 : Int32) (a2 : Int32) (a3 : Int32) (a4 : Int32), ∃ r M1 M2, F_W_game N a1 a2 a3 a4 M = some (r, M1) ∧ F_M_game N a1 a2 a3 a4 M1 = some (r, M2) ∧ Inv M2
def mo_28 (N : Nat) (Inv : mj_M → Prop) : Prop := ∀ M, Inv M → ∀ (a1 : Int32) (a2 : Int32), ∃ r M1 M2, F_W_rests N a1 a2 M = some (r, M1) ∧ F_M_rests N a1 a2 M1 = some (r, M2) ∧ Inv M2
def mo_29 (N : Nat) (Inv : mj_M → Prop) : Prop := ∀ M, Inv M → ∀ (a1 : Int32) (a2 : Int32) (a3 : Int32) (a4 : Int32), ∃ r M1 M2, F_W_odds N a1 a2 a3 a4 M = some (r, M1) ∧ F_M_odds N a1 a2 a3 a4 M1 = some (r, M2) ∧ Inv M2
def mo_30 (N : Nat) (Inv : mj_M → Prop) : Prop := ∀ M, Inv M → ∃ r M1 M2, F_W_reach N M = some (r, M1) ∧ F_M_reach N M1 = some (r, M2) ∧ Inv M2
def mo_31 (N : Nat) (Inv : mj_M → Prop) : Prop := ∀ M, Inv M → ∀ (a1 : Int32) (a2 : Int32), ∃ r M1 M2, F_W_shares N a1 a2 M = some (r, M1) ∧ F_M_shares N a1 a2 M1 = some (r, M2) ∧ Inv M2
def mo_32 (N : Nat) (Inv : mj_M → Prop) : Prop := ∀ M, Inv M → ∀ (a1 : Int32) (a2 : Int32), ∃ r M1 M2, F_W_fresh N a1 a2 M = some (r, M1) ∧ F_M_fresh N a1 a2 M1 = some (r, M2) ∧ Inv M2
def mo_33 (N : Nat) (Inv : mj_M → Prop) : Prop := ∀ M, Inv M → ∀ (a1 : Int32) (a2 : Int32), ∃ r M1 M2, F_W_where N a1 a2 M = some (r, M1) ∧ F_M_where N a1 a2 M1 = some (r, M2) ∧ Inv M2
def mo_34 (N : Nat) (Inv : mj_M → Prop) : Prop := ∀ M, Inv M → ∀ (a1 : Int32), ∃ r M1 M2, F_W_round N a1 M = some (r, M1) ∧ F_M_round N a1 M1 = some (r, M2) ∧ Inv M2
def mo_35 (N : Nat) (Inv : mj_M → Prop) : Prop := ∀ M, Inv M → ∀ (a1 : Int32), ∃ r M1 M2, F_W_most N a1 M = some (r, M1) ∧ F_M_most N a1 M1 = some (r, M2) ∧ Inv M2
def mo_36 (N : Nat) (Inv : mj_M → Prop) : Prop := ∀ M, Inv M → ∃ r M1 M2, F_W_image M = some (r, M1) ∧ F_M_image N M1 = some (r, M2) ∧ Inv M2
def mo_37 (N : Nat) (Inv : mj_M → Prop) : Prop := ∀ M, Inv M → ∃ r M1 M2, F_W_back M = some (r, M1) ∧ F_M_back N M1 = some (r, M2) ∧ Inv M2
def mo_38 (N : Nat) (Inv : mj_M → Prop) : Prop := ∀ M, Inv M → ∀ (a1 : Int32), ∃ r M1 M2, F_W_count a1 M = some (r, M1) ∧ F_M_count a1 M1 = some (r, M2) ∧ Inv M2
def mj_OK (N : Nat) (Inv : mj_M → Prop) : Prop := mo_0 N Inv ∧ mo_1 N Inv ∧ mo_2 N Inv ∧ mo_3 N Inv ∧ mo_4 N Inv ∧ mo_5 N Inv ∧ mo_6 N Inv ∧ mo_7 N Inv ∧ mo_8 N Inv ∧ mo_9 N Inv ∧ mo_10 N Inv ∧ mo_11 N Inv ∧ mo_12 N Inv ∧ mo_13 N Inv ∧ mo_14 N Inv ∧ mo_15 N Inv ∧ mo_16 N Inv ∧ mo_17 N Inv ∧ mo_18 N Inv ∧ mo_19 N Inv ∧ mo_20 N Inv ∧ mo_21 N Inv ∧ mo_22 N Inv ∧ mo_23 N Inv ∧ mo_24 N Inv ∧ mo_25 N Inv ∧ mo_26 N Inv ∧ mo_27 N Inv ∧ mo_28 N Inv ∧ mo_29 N Inv ∧ mo_30 N Inv ∧ mo_31 N Inv ∧ mo_32 N Inv ∧ mo_33 N Inv ∧ mo_34 N Inv ∧ mo_35 N Inv ∧ mo_36 N Inv ∧ mo_37 N Inv ∧ mo_38 N Inv
theorem ql_L_47 : Cond.methodLink "WinterTellersLaw" 47 y_M_tale ∈ mj_TT := mj_tt (List.mem_of_getElem? (i := 1470) (by decide +kernel)) (by decide +kernel)
theorem ql_L_48 : Cond.methodLink "WinterTellersLaw" 48 y_M_thrown ∈ mj_TT := mj_tt (List.mem_of_getElem? (i := 1307) (by decide +kernel)) (by decide +kernel)
theorem mj_cmp0 (x : Int64) : lg_cmp x x = 0 := by unfold lg_cmp; simp
set_option maxRecDepth 20000 in
theorem Lc_5A {g : mj_G} {b Lz : Nat} {xs : Nat → Int32} {x4 : Int32} {M : mj_M} {ce sl : Nat} (N : Nat) (hst : (mj_l g).stackTraces = false) (h1 : vp_in (x4 + (1 : Int32)) Lz) (h2 : vp_in (x4 + (2 : Int32)) Lz) (hce : ce + 1 ≤ 601024) (hsl : sl + 6 ≤ 7293034) {v : Int32} {M1 M2 M3 : mj_M} (f1 : F_W_tale (xs (x4 + (1 : Int32)).toNatClampNeg) (xs (x4 + (2 : Int32)).toNatClampNeg) M = some (v, M1)) (f2 : F_M_tale (xs (x4 + (1 : Int32)).toNatClampNeg) (xs (x4 + (2 : Int32)).toNatClampNeg) (mj_out M1 v.toInt64) = some (v, M2)) (f3 : F_M_thrown M2 = some (0, M3)) (f4 : M3 73 = mj_out M1 v.toInt64 73) (kk : mj_Z g b Lz xs 1482 [(4, .int x4), (0, .ref b), (1, .ref (mj_d g 0)), (2, .ref (mj_d g 48)), (3, .ref (mj_d g 73))] [] M3 (ce + 1) (sl + 6)) : mj_Z g b Lz xs 397 [(4, .int x4), (0, .ref b), (1, .ref (mj_d g 0)), (2, .ref (mj_d g 48)), (3, .ref (mj_d g 73))] [] M ce sl := by
  refine mz_aload_n (pc := 397) (i := 1) (j := 2) rfl dl_397 ?_
  refine mz_aload_n (pc := 398) (i := 0) (j := 1) rfl dl_398 ?_
  refine mz_iload (pc := 399) (i := 4) (j := 0) rfl dl_399 ?_
  refine mz_iconst (pc := 401) (v := (1 : Int32)) (by decide) dl_401 ?_
  refine mz_iadd (pc := 402) dl_402 ?_
  refine mz_sld (pc := 403) h1 dl_403 ?_
  refine mz_aload_n (pc := 404) (i := 0) (j := 1) rfl dl_404 ?_
  refine mz_iload (pc := 405) (i := 4) (j := 0) rfl dl_405 ?_
  refine mz_iconst (pc := 407) (v := (2 : Int32)) (by decide) dl_407 ?_
  refine mz_iadd (pc := 408) dl_408 ?_
  refine mz_sld (pc := 409) h2 dl_409 ?_
  refine mz_aload_n (pc := 410) (i := 3) (j := 4) rfl dl_410 ?_
  refine mz_tale (pc := 411) hst (q := (0, mj_out M1 v.toInt64)) (Or.inl ⟨v, M1, f1, rfl⟩) hce hsl dl_411 ?_
  refine mz_istore (pc := 414) (lv' := [(5, .int 0), (4, .int x4), (0, .ref b), (1, .ref (mj_d g 0)), (2, .ref (mj_d g 48)), (3, .ref (mj_d g 73))]) (by decide) rfl dl_414 ?_
  refine mz_aload_n (pc := 416) (i := 2) (j := 4) rfl dl_416 ?_
  refine mz_aload_n (pc := 417) (i := 0) (j := 2) rfl dl_417 ?_
  refine mz_iload (pc := 418) (i := 4) (j := 1) rfl dl_418 ?_
  refine mz_iconst (pc := 420) (v := (1 : Int32)) (by decide) dl_420 ?_
  refine mz_iadd (pc := 421) dl_421 ?_
  refine mz_sld (pc := 422) h1 dl_422 ?_
  refine mz_aload_n (pc := 423) (i := 0) (j := 2) rfl dl_423 ?_
  refine mz_iload (pc := 424) (i := 4) (j := 1) rfl dl_424 ?_
  refine mz_iconst (pc := 426) (v := (2 : Int32)) (by decide) dl_426 ?_
  refine mz_iadd (pc := 427) dl_427 ?_
  refine mz_sld (pc := 428) h2 dl_428 ?_
  refine mz_callI (pc := 429) (idx := 47) (bo := 48) (As := [.int (xs (x4 + (1 : Int32)).toNatClampNeg), .int (xs (x4 + (2 : Int32)).toNatClampNeg)]) (st := []) (q := (v, M2)) sh_48 cl_12 ev_M_tale ql_L_47 rfl rfl (Nat.le_of_ble_eq_true rfl) hce hsl (T_M_tale (g := g) 1000 (by decide) (xs (x4 + (1 : Int32)).toNatClampNeg) (xs (x4 + (2 : Int32)).toNatClampNeg) (mj_out M1 v.toInt64)) f2 dl_429 ?_
  refine mz_istore (pc := 432) (lv' := [(6, .int v), (5, .int 0), (4, .int x4), (0, .ref b), (1, .ref (mj_d g 0)), (2, .ref (mj_d g 48)), (3, .ref (mj_d g 73))]) (by decide) rfl dl_432 ?_
  refine mz_aload_n (pc := 434) (i := 2) (j := 5) rfl dl_434 ?_
  refine mz_callI (pc := 435) (idx := 48) (bo := 48) (As := []) (st := []) (q := (0, M3)) sh_48 cl_12 ev_M_thrown ql_L_48 rfl rfl (Nat.le_of_ble_eq_true rfl) hce hsl (T_M_thrown (g := g) 1000 (by decide) M2) f3 dl_435 ?_
  refine mz_iload (pc := 438) (i := 5) (j := 1) rfl dl_438 ?_
  refine mz_icmp_eq (pc := 440) (tgt := 445) dl_440 rfl (fun _ => ?_) (fun hz => absurd rfl hz)
  refine mz_iload (pc := 445) (i := 5) (j := 1) rfl dl_445 ?_
  refine mz_if_ne (pc := 447) (tgt := 462) dl_447 rfl (fun _ => ?_) (fun hz => absurd rfl hz)
  refine mz_aload_n (pc := 450) (i := 3) (j := 6) rfl dl_450 ?_
  refine mz_iconst (pc := 451) (v := 0) (by decide) dl_451 ?_
  refine mz_lald (pc := 452) rfl dl_452 ?_
  refine mz_iload (pc := 453) (i := 6) (j := 0) rfl dl_453 ?_
  refine mz_i2l (pc := 455) dl_455 ?_
  refine mz_lcmp (pc := 456) dl_456 ?_
  refine mz_if_eq (pc := 457) (tgt := 462) dl_457 rfl (fun _ => ?_) (fun hz => ?_)
  · refine mz_goto (pc := 462) (tgt := 1482) dl_462 rfl ?_
    exact mz_pick [2, 3, 4, 5, 6] rfl kk
  · exfalso; apply hz
    have e1 : mj_cat (M3 73 0) (M3 73 1000) = v.toInt64 := by rw [f4]; exact mj_cat_eq _
    rw [e1]; exact mj_cmp0 _
set_option maxRecDepth 20000 in
theorem Lc_5B {g : mj_G} {b Lz : Nat} {xs : Nat → Int32} {x4 : Int32} {M : mj_M} {ce sl : Nat} (N : Nat) (hst : (mj_l g).stackTraces = false) (h1 : vp_in (x4 + (1 : Int32)) Lz) (h2 : vp_in (x4 + (2 : Int32)) Lz) (hce : ce + 1 ≤ 601024) (hsl : sl + 6 ≤ 7293034) {v : Int32} {M2 M3 : mj_M} (f1 : (F_Coast_hasTale (xs (x4 + (1 : Int32)).toNatClampNeg) M = some (0, M) ∨ (∃ v, F_Coast_hasTale (xs (x4 + (1 : Int32)).toNatClampNeg) M = some (v, M)) ∧ ((xs (x4 + (2 : Int32)).toNatClampNeg) < 0 ∨ ¬ (xs (x4 + (2 : Int32)).toNatClampNeg) ≤ 3))) (f2 : F_M_tale (xs (x4 + (1 : Int32)).toNatClampNeg) (xs (x4 + (2 : Int32)).toNatClampNeg) M = some (v, M2)) (f3 : F_M_thrown M2 = some (1, M3)) (kk : mj_Z g b Lz xs 1482 [(4, .int x4), (0, .ref b), (1, .ref (mj_d g 0)), (2, .ref (mj_d g 48)), (3, .ref (mj_d g 73))] [] M3 (ce + 1) (sl + 6)) : mj_Z g b Lz xs 397 [(4, .int x4), (0, .ref b), (1, .ref (mj_d g 0)), (2, .ref (mj_d g 48)), (3, .ref (mj_d g 73))] [] M ce sl := by
  refine mz_aload_n (pc := 397) (i := 1) (j := 2) rfl dl_397 ?_
  refine mz_aload_n (pc := 398) (i := 0) (j := 1) rfl dl_398 ?_
  refine mz_iload (pc := 399) (i := 4) (j := 0) rfl dl_399 ?_
  refine mz_iconst (pc := 401) (v := (1 : Int32)) (by decide) dl_401 ?_
  refine mz_iadd (pc := 402) dl_402 ?_
  refine mz_sld (pc := 403) h1 dl_403 ?_
  refine mz_aload_n (pc := 404) (i := 0) (j := 1) rfl dl_404 ?_
  refine mz_iload (pc := 405) (i := 4) (j := 0) rfl dl_405 ?_
  refine mz_iconst (pc := 407) (v := (2 : Int32)) (by decide) dl_407 ?_
  refine mz_iadd (pc := 408) dl_408 ?_
  refine mz_sld (pc := 409) h2 dl_409 ?_
  refine mz_aload_n (pc := 410) (i := 3) (j := 4) rfl dl_410 ?_
  refine mz_tale (pc := 411) hst (q := (1, M)) (Or.inr ⟨f1, rfl⟩) hce hsl dl_411 ?_
  refine mz_istore (pc := 414) (lv' := [(5, .int 1), (4, .int x4), (0, .ref b), (1, .ref (mj_d g 0)), (2, .ref (mj_d g 48)), (3, .ref (mj_d g 73))]) (by decide) rfl dl_414 ?_
  refine mz_aload_n (pc := 416) (i := 2) (j := 4) rfl dl_416 ?_
  refine mz_aload_n (pc := 417) (i := 0) (j := 2) rfl dl_417 ?_
  refine mz_iload (pc := 418) (i := 4) (j := 1) rfl dl_418 ?_
  refine mz_iconst (pc := 420) (v := (1 : Int32)) (by decide) dl_420 ?_
  refine mz_iadd (pc := 421) dl_421 ?_
  refine mz_sld (pc := 422) h1 dl_422 ?_
  refine mz_aload_n (pc := 423) (i := 0) (j := 2) rfl dl_423 ?_
  refine mz_iload (pc := 424) (i := 4) (j := 1) rfl dl_424 ?_
  refine mz_iconst (pc := 426) (v := (2 : Int32)) (by decide) dl_426 ?_
  refine mz_iadd (pc := 427) dl_427 ?_
  refine mz_sld (pc := 428) h2 dl_428 ?_
  refine mz_callI (pc := 429) (idx := 47) (bo := 48) (As := [.int (xs (x4 + (1 : Int32)).toNatClampNeg), .int (xs (x4 + (2 : Int32)).toNatClampNeg)]) (st := []) (q := (v, M2)) sh_48 cl_12 ev_M_tale ql_L_47 rfl rfl (Nat.le_of_ble_eq_true rfl) hce hsl (T_M_tale (g := g) 1000 (by decide) (xs (x4 + (1 : Int32)).toNatClampNeg) (xs (x4 + (2 : Int32)).toNatClampNeg) M) f2 dl_429 ?_
  refine mz_istore (pc := 432) (lv' := [(6, .int v), (5, .int 1), (4, .int x4), (0, .ref b), (1, .ref (mj_d g 0)), (2, .ref (mj_d g 48)), (3, .ref (mj_d g 73))]) (by decide) rfl dl_432 ?_
  refine mz_aload_n (pc := 434) (i := 2) (j := 5) rfl dl_434 ?_
  refine mz_callI (pc := 435) (idx := 48) (bo := 48) (As := []) (st := []) (q := (1, M3)) sh_48 cl_12 ev_M_thrown ql_L_48 rfl rfl (Nat.le_of_ble_eq_true rfl) hce hsl (T_M_thrown (g := g) 1000 (by decide) M2) f3 dl_435 ?_
  refine mz_iload (pc := 438) (i := 5) (j := 1) rfl dl_438 ?_
  refine mz_icmp_eq (pc := 440) (tgt := 445) dl_440 rfl (fun _ => ?_) (fun hz => absurd rfl hz)
  refine mz_iload (pc := 445) (i := 5) (j := 1) rfl dl_445 ?_
  refine mz_if_ne (pc := 447) (tgt := 462) dl_447 rfl (fun hz => absurd hz (by decide)) (fun _ => ?_)
  refine mz_goto (pc := 462) (tgt := 1482) dl_462 rfl ?_
  exact mz_pick [2, 3, 4, 5, 6] rfl kk
theorem mj_lz {Lz j : Nat} (hL : Lz ≤ 3072) (hj : j ≤ 512) (h : ¬ Int32.ofNat Lz - 6 < nI (6 * j)) : 6 * j + 6 ≤ Lz := by
  apply Classical.byContradiction
  intro hc
  apply h
  rw [Int32.lt_iff_toInt_lt, Int32.toInt_sub]
  have e1 : (Int32.ofNat Lz).toInt = (Lz : Int) := nI_toInt (n := Lz) (by omega)
  have e2 : (nI (6 * j)).toInt = ((6 * j : Nat) : Int) := nI_toInt (by omega)
  have e3 : (6 : Int32).toInt = 6 := by decide
  rw [e1, e2, e3, Int.bmod_def]
  omega
theorem mj_inx {Lz j k : Nat} (hL : Lz ≤ 3072) (hk : k ≤ 5) (h : 6 * j + 6 ≤ Lz) : vp_in (nI (6 * j) + nI k) Lz := by
  rw [nI_add]
  exact nI_in (by omega) (by omega)
set_option maxHeartbeats 4000000 in
set_option maxRecDepth 20000 in
theorem law_loop {g : mj_G} {b Lz : Nat} {xs : Nat → Int32} {N : Nat} {Inv : mj_M → Prop} (hst : (mj_l g).stackTraces = false) (hOK : mj_OK N Inv) (hL : Lz ≤ 3072) : ∀ (n j : Nat) (x4 : Int32) (M : mj_M) (ce sl : Nat), 513 ≤ n + j → j ≤ 512 → x4 = nI (6 * j) → ce ≤ 80 + j → sl ≤ 30000 + 6 * j → Inv M → mj_Z g b Lz xs 23 [(4, .int x4), (0, .ref b), (1, .ref (mj_d g 0)), (2, .ref (mj_d g 48)), (3, .ref (mj_d g 73))] [] M ce sl := by
  intro n
  induction n with
  | zero => intro j x4 M ce sl h1 h2; omega
  | succ n ih =>
    intro j x4 M ce sl hn hj hx4 hce hsl hI
    obtain ⟨o0, o1, o2, o3, o4, o5, o6, o7, o8, o9, o10, o11, o12, o13, o14, o15, o16, o17, o18, o19, o20, o21, o22, o23, o24, o25, o26, o27, o28, o29, o30, o31, o32, o33, o34, o35, o36, o37, o38⟩ := id hOK
    refine mz_iload (pc := 23) (i := 4) (j := 0) rfl dl_23 ?_
    refine mz_aload_n (pc := 25) (i := 0) (j := 1) rfl dl_25 ?_
    refine mz_slen (pc := 26) dl_26 ?_
    refine mz_bipush (pc := 27) (v := 6) (by decide) dl_27 ?_
    refine mz_isub (pc := 29) dl_29 ?_
    refine mz_icmp_gt (pc := 30) (tgt := 1488) dl_30 rfl (fun _ => ?_) (fun hz => ?_)
    · refine mz_iconst (pc := 1488) (v := 1) (by decide) dl_1488 ?_
      exact mz_ret (by omega) (by omega) dl_1489
    · have hlen : 6 * j + 6 ≤ Lz := mj_lz hL hj (by rw [← hx4]; exact hz)
      have h0 : vp_in x4 Lz := by have := mj_inx (k := 0) hL (by omega) hlen; rw [nI_add] at this; rw [hx4]; exact this
      have h1 : vp_in (x4 + (1 : Int32)) Lz := by rw [hx4]; exact mj_inx (k := 1) hL (by omega) hlen
      have h2 : vp_in (x4 + (2 : Int32)) Lz := by rw [hx4]; exact mj_inx (k := 2) hL (by omega) hlen
      have h3 : vp_in (x4 + (3 : Int32)) Lz := by rw [hx4]; exact mj_inx (k := 3) hL (by omega) hlen
      have h4 : vp_in (x4 + (4 : Int32)) Lz := by rw [hx4]; exact mj_inx (k := 4) hL (by omega) hlen
      have h5 : vp_in (x4 + (5 : Int32)) Lz := by rw [hx4]; exact mj_inx (k := 5) hL (by omega) hlen
      have next : ∀ (M' : mj_M) (ce' sl' : Nat), ce' ≤ 81 + j → sl' ≤ 30006 + 6 * j → Inv M' → mj_Z g b Lz xs 1482 [(4, .int x4), (0, .ref b), (1, .ref (mj_d g 0)), (2, .ref (mj_d g 48)), (3, .ref (mj_d g 73))] [] M' ce' sl' := by
        intro M' ce' sl' a1 a2 a3
        refine mz_iinc (pc := 1482) (i := 4) (j := 0) (v := x4 + 6) (lv' := [(4, .int (x4 + 6)), (0, .ref b), (1, .ref (mj_d g 0)), (2, .ref (mj_d g 48)), (3, .ref (mj_d g 73))]) rfl rfl (by decide) rfl dl_1482 ?_
        refine mz_goto (pc := 1485) (tgt := 23) dl_1485 rfl ?_
        exact ih (j + 1) (x4 + 6) M' ce' sl' (by omega) (by omega) (by rw [hx4, show (6 : Int32) = nI 6 from rfl, nI_add]; congr 1) (by omega) (by omega) a3
      refine mz_aload_n (pc := 33) (i := 0) (j := 1) rfl dl_33 ?_
      refine mz_iload (pc := 34) (i := 4) (j := 0) rfl dl_34 ?_
      refine mz_sld (pc := 36) h0 dl_36 ?_
      refine mz_bipush (pc := 37) (v := 63) (by decide) dl_37 ?_
      refine mz_iand (pc := 39) dl_39 ?_
      generalize xs x4.toNatClampNeg &&& 63 = op
      by_cases c0 : op = (0 : Int32)
      · refine mz_tswK (pc := 40) (tgt := 212) (k := (0 : Int32)) (off := 172) c0 dl_40 (by decide) (by decide) rfl rfl ?_
        obtain ⟨r, M1, M2, f1, f2, hI2⟩ := o0 M hI (xs (x4 + (1 : Int32)).toNatClampNeg) (xs (x4 + (2 : Int32)).toNatClampNeg) (xs (x4 + (3 : Int32)).toNatClampNeg) (xs (x4 + (4 : Int32)).toNatClampNeg) (xs (x4 + (5 : Int32)).toNatClampNeg)
        exact Lc_0 N h1 h2 h3 h4 h5 (by omega) (by omega) f1 f2 (next M2 _ _ (by omega) (by omega) hI2)
      by_cases c1 : op = (1 : Int32)
      · refine mz_tswK (pc := 40) (tgt := 285) (k := (1 : Int32)) (off := 245) c1 dl_40 (by decide) (by decide) rfl rfl ?_
        obtain ⟨r, M1, M2, f1, f2, hI2⟩ := o1 M hI (xs (x4 + (1 : Int32)).toNatClampNeg)
        exact Lc_1 N h1 (by omega) (by omega) f1 f2 (next M2 _ _ (by omega) (by omega) hI2)
      by_cases c2 : op = (2 : Int32)
      · refine mz_tswK (pc := 40) (tgt := 310) (k := (2 : Int32)) (off := 270) c2 dl_40 (by decide) (by decide) rfl rfl ?_
        obtain ⟨r, M1, M2, f1, f2, hI2⟩ := o2 M hI (xs (x4 + (1 : Int32)).toNatClampNeg)
        exact Lc_2 N h1 (by omega) (by omega) f1 f2 (next M2 _ _ (by omega) (by omega) hI2)
      by_cases c3 : op = (3 : Int32)
      · refine mz_tswK (pc := 40) (tgt := 335) (k := (3 : Int32)) (off := 295) c3 dl_40 (by decide) (by decide) rfl rfl ?_
        obtain ⟨r, M1, M2, f1, f2, hI2⟩ := o3 M hI (xs (x4 + (1 : Int32)).toNatClampNeg)
        exact Lc_3 N h1 (by omega) (by omega) f1 f2 (next M2 _ _ (by omega) (by omega) hI2)
      by_cases c4 : op = (4 : Int32)
      · refine mz_tswK (pc := 40) (tgt := 360) (k := (4 : Int32)) (off := 320) c4 dl_40 (by decide) (by decide) rfl rfl ?_
        obtain ⟨r, M1, M2, f1, f2, hI2⟩ := o4 M hI (xs (x4 + (1 : Int32)).toNatClampNeg) (xs (x4 + (2 : Int32)).toNatClampNeg)
        exact Lc_4 N h1 h2 (by omega) (by omega) f1 f2 (next M2 _ _ (by omega) (by omega) hI2)
      by_cases c5 : op = (5 : Int32)
      · refine mz_tswK (pc := 40) (tgt := 397) (k := (5 : Int32)) (off := 357) c5 dl_40 (by decide) (by decide) rfl rfl ?_
        rcases o5 M hI (xs (x4 + (1 : Int32)).toNatClampNeg) (xs (x4 + (2 : Int32)).toNatClampNeg) with ⟨v, M1, M2, M3, f1, f2, f3, f4, hI2⟩ | ⟨f1, v, M2, M3, f2, f3, hI2⟩
        · exact Lc_5A N hst h1 h2 (by omega) (by omega) f1 f2 f3 f4 (next M3 _ _ (by omega) (by omega) hI2)
        · exact Lc_5B N hst h1 h2 (by omega) (by omega) f1 f2 f3 (next M3 _ _ (by omega) (by omega) hI2)
      by_cases c6 : op = (6 : Int32)
      · refine mz_tswK (pc := 40) (tgt := 465) (k := (6 : Int32)) (off := 425) c6 dl_40 (by decide) (by decide) rfl rfl ?_
        obtain ⟨r, M1, M2, f1, f2, hI2⟩ := o6 M hI (xs (x4 + (1 : Int32)).toNatClampNeg) (xs (x4 + (2 : Int32)).toNatClampNeg)
        exact Lc_6 N h1 h2 (by omega) (by omega) f1 f2 (next M2 _ _ (by omega) (by omega) hI2)
      by_cases c7 : op = (7 : Int32)
      · refine mz_tswK (pc := 40) (tgt := 502) (k := (7 : Int32)) (off := 462) c7 dl_40 (by decide) (by decide) rfl rfl ?_
        obtain ⟨r, M1, M2, f1, f2, hI2⟩ := o7 M hI (xs (x4 + (1 : Int32)).toNatClampNeg) (xs (x4 + (2 : Int32)).toNatClampNeg)
        exact Lc_7 N h1 h2 (by omega) (by omega) f1 f2 (next M2 _ _ (by omega) (by omega) hI2)
      by_cases c8 : op = (8 : Int32)
      · refine mz_tswK (pc := 40) (tgt := 539) (k := (8 : Int32)) (off := 499) c8 dl_40 (by decide) (by decide) rfl rfl ?_
        obtain ⟨r, M1, M2, f1, f2, hI2⟩ := o8 M hI (xs (x4 + (1 : Int32)).toNatClampNeg)
        exact Lc_8 N h1 (by omega) (by omega) f1 f2 (next M2 _ _ (by omega) (by omega) hI2)
      by_cases c9 : op = (9 : Int32)
      · refine mz_tswK (pc := 40) (tgt := 564) (k := (9 : Int32)) (off := 524) c9 dl_40 (by decide) (by decide) rfl rfl ?_
        obtain ⟨r, M1, M2, f1, f2, hI2⟩ := o9 M hI (xs (x4 + (1 : Int32)).toNatClampNeg)
        exact Lc_9 N h1 (by omega) (by omega) f1 f2 (next M2 _ _ (by omega) (by omega) hI2)
      by_cases c10 : op = (10 : Int32)
      · refine mz_tswK (pc := 40) (tgt := 589) (k := (10 : Int32)) (off := 549) c10 dl_40 (by decide) (by decide) rfl rfl ?_
        obtain ⟨r, M1, M2, f1, f2, hI2⟩ := o10 M hI (xs (x4 + (1 : Int32)).toNatClampNeg)
        exact Lc_10 N h1 (by omega) (by omega) f1 f2 (next M2 _ _ (by omega) (by omega) hI2)
      by_cases c11 : op = (11 : Int32)
      · refine mz_tswK (pc := 40) (tgt := 614) (k := (11 : Int32)) (off := 574) c11 dl_40 (by decide) (by decide) rfl rfl ?_
        obtain ⟨r, M1, M2, f1, f2, hI2⟩ := o11 M hI (xs (x4 + (1 : Int32)).toNatClampNeg)
        exact Lc_11 N h1 (by omega) (by omega) f1 f2 (next M2 _ _ (by omega) (by omega) hI2)
      by_cases c12 : op = (12 : Int32)
      · refine mz_tswK (pc := 40) (tgt := 639) (k := (12 : Int32)) (off := 599) c12 dl_40 (by decide) (by decide) rfl rfl ?_
        obtain ⟨r, M1, M2, f1, f2, hI2⟩ := o12 M hI (xs (x4 + (1 : Int32)).toNatClampNeg)
        exact Lc_12 N h1 (by omega) (by omega) f1 f2 (next M2 _ _ (by omega) (by omega) hI2)
      by_cases c13 : op = (13 : Int32)
      · refine mz_tswK (pc := 40) (tgt := 664) (k := (13 : Int32)) (off := 624) c13 dl_40 (by decide) (by decide) rfl rfl ?_
        obtain ⟨r, M1, M2, f1, f2, hI2⟩ := o13 M hI
        exact Lc_13 N  (by omega) (by omega) f1 f2 (next M2 _ _ (by omega) (by omega) hI2)
      by_cases c14 : op = (14 : Int32)
      · refine mz_tswK (pc := 40) (tgt := 677) (k := (14 : Int32)) (off := 637) c14 dl_40 (by decide) (by decide) rfl rfl ?_
        obtain ⟨r, M1, M2, f1, f2, hI2⟩ := o14 M hI (xs (x4 + (1 : Int32)).toNatClampNeg)
        exact Lc_14 N h1 (by omega) (by omega) f1 f2 (next M2 _ _ (by omega) (by omega) hI2)
      by_cases c15 : op = (15 : Int32)
      · refine mz_tswK (pc := 40) (tgt := 702) (k := (15 : Int32)) (off := 662) c15 dl_40 (by decide) (by decide) rfl rfl ?_
        obtain ⟨r, M1, M2, f1, f2, hI2⟩ := o15 M hI (xs (x4 + (1 : Int32)).toNatClampNeg)
        exact Lc_15 N h1 (by omega) (by omega) f1 f2 (next M2 _ _ (by omega) (by omega) hI2)
      by_cases c16 : op = (16 : Int32)
      · refine mz_tswK (pc := 40) (tgt := 727) (k := (16 : Int32)) (off := 687) c16 dl_40 (by decide) (by decide) rfl rfl ?_
        obtain ⟨r, M1, M2, f1, f2, hI2⟩ := o16 M hI (xs (x4 + (1 : Int32)).toNatClampNeg) (xs (x4 + (2 : Int32)).toNatClampNeg) (xs (x4 + (3 : Int32)).toNatClampNeg)
        exact Lc_16 N h1 h2 h3 (by omega) (by omega) f1 f2 (next M2 _ _ (by omega) (by omega) hI2)
      by_cases c17 : op = (17 : Int32)
      · refine mz_tswK (pc := 40) (tgt := 796) (k := (17 : Int32)) (off := 756) c17 dl_40 (by decide) (by decide) rfl rfl ?_
        obtain ⟨r, M1, M2, f1, f2, hI2⟩ := o17 M hI (xs (x4 + (1 : Int32)).toNatClampNeg)
        exact Lc_17 N h1 (by omega) (by omega) f1 f2 (next M2 _ _ (by omega) (by omega) hI2)
      by_cases c18 : op = (18 : Int32)
      · refine mz_tswK (pc := 40) (tgt := 821) (k := (18 : Int32)) (off := 781) c18 dl_40 (by decide) (by decide) rfl rfl ?_
        obtain ⟨r, M1, M2, f1, f2, hI2⟩ := o18 M hI
        exact Lc_18 N  (by omega) (by omega) f1 f2 (next M2 _ _ (by omega) (by omega) hI2)
      by_cases c19 : op = (19 : Int32)
      · refine mz_tswK (pc := 40) (tgt := 834) (k := (19 : Int32)) (off := 794) c19 dl_40 (by decide) (by decide) rfl rfl ?_
        obtain ⟨r, M1, M2, f1, f2, hI2⟩ := o19 M hI (xs (x4 + (1 : Int32)).toNatClampNeg) (xs (x4 + (2 : Int32)).toNatClampNeg)
        exact Lc_19 N h1 h2 (by omega) (by omega) f1 f2 (next M2 _ _ (by omega) (by omega) hI2)
      by_cases c20 : op = (20 : Int32)
      · refine mz_tswK (pc := 40) (tgt := 871) (k := (20 : Int32)) (off := 831) c20 dl_40 (by decide) (by decide) rfl rfl ?_
        obtain ⟨r, M1, M2, f1, f2, hI2⟩ := o20 M hI (xs (x4 + (1 : Int32)).toNatClampNeg) (xs (x4 + (2 : Int32)).toNatClampNeg)
        exact Lc_20 N h1 h2 (by omega) (by omega) f1 f2 (next M2 _ _ (by omega) (by omega) hI2)
      by_cases c21 : op = (21 : Int32)
      · refine mz_tswK (pc := 40) (tgt := 908) (k := (21 : Int32)) (off := 868) c21 dl_40 (by decide) (by decide) rfl rfl ?_
        obtain ⟨r, M1, M2, f1, f2, hI2⟩ := o21 M hI (xs (x4 + (1 : Int32)).toNatClampNeg)
        exact Lc_21 N h1 (by omega) (by omega) f1 f2 (next M2 _ _ (by omega) (by omega) hI2)
      by_cases c22 : op = (22 : Int32)
      · refine mz_tswK (pc := 40) (tgt := 933) (k := (22 : Int32)) (off := 893) c22 dl_40 (by decide) (by decide) rfl rfl ?_
        obtain ⟨r, M1, M2, f1, f2, hI2⟩ := o22 M hI (xs (x4 + (1 : Int32)).toNatClampNeg)
        exact Lc_22 N h1 (by omega) (by omega) f1 f2 (next M2 _ _ (by omega) (by omega) hI2)
      by_cases c23 : op = (23 : Int32)
      · refine mz_tswK (pc := 40) (tgt := 958) (k := (23 : Int32)) (off := 918) c23 dl_40 (by decide) (by decide) rfl rfl ?_
        obtain ⟨r, M1, M2, f1, f2, hI2⟩ := o23 M hI (xs (x4 + (1 : Int32)).toNatClampNeg)
        exact Lc_23 N h1 (by omega) (by omega) f1 f2 (next M2 _ _ (by omega) (by omega) hI2)
      by_cases c24 : op = (24 : Int32)
      · refine mz_tswK (pc := 40) (tgt := 983) (k := (24 : Int32)) (off := 943) c24 dl_40 (by decide) (by decide) rfl rfl ?_
        by_cases hc : xs (x4 + (3 : Int32)).toNatClampNeg = 0
        · obtain ⟨r, M1, M2, f1, f2, hI2⟩ := o24 M hI (xs (x4 + (1 : Int32)).toNatClampNeg) (xs (x4 + (2 : Int32)).toNatClampNeg) 0 (by decide)
          exact Lc_24z N h1 h2 h3 hc (by omega) (by omega) f1 f2 (next M2 _ _ (by omega) (by omega) hI2)
        · obtain ⟨r, M1, M2, f1, f2, hI2⟩ := o24 M hI (xs (x4 + (1 : Int32)).toNatClampNeg) (xs (x4 + (2 : Int32)).toNatClampNeg) 1 (by decide)
          exact Lc_24n N h1 h2 h3 hc (by omega) (by omega) f1 f2 (next M2 _ _ (by omega) (by omega) hI2)
      by_cases c25 : op = (25 : Int32)
      · refine mz_tswK (pc := 40) (tgt := 1048) (k := (25 : Int32)) (off := 1008) c25 dl_40 (by decide) (by decide) rfl rfl ?_
        obtain ⟨r, M1, M2, f1, f2, hI2⟩ := o25 M hI (xs (x4 + (1 : Int32)).toNatClampNeg)
        exact Lc_25 N h1 (by omega) (by omega) f1 f2 (next M2 _ _ (by omega) (by omega) hI2)
      by_cases c26 : op = (26 : Int32)
      · refine mz_tswK (pc := 40) (tgt := 1073) (k := (26 : Int32)) (off := 1033) c26 dl_40 (by decide) (by decide) rfl rfl ?_
        obtain ⟨r, M1, M2, f1, f2, hI2⟩ := o26 M hI (xs (x4 + (1 : Int32)).toNatClampNeg)
        exact Lc_26 N h1 (by omega) (by omega) f1 f2 (next M2 _ _ (by omega) (by omega) hI2)
      by_cases c27 : op = (27 : Int32)
      · refine mz_tswK (pc := 40) (tgt := 1098) (k := (27 : Int32)) (off := 1058) c27 dl_40 (by decide) (by decide) rfl rfl ?_
        obtain ⟨r, M1, M2, f1, f2, hI2⟩ := o27 M hI (xs (x4 + (1 : Int32)).toNatClampNeg) (xs (x4 + (2 : Int32)).toNatClampNeg) (xs (x4 + (3 : Int32)).toNatClampNeg) (xs (x4 + (4 : Int32)).toNatClampNeg)
        exact Lc_27 N h1 h2 h3 h4 (by omega) (by omega) f1 f2 (next M2 _ _ (by omega) (by omega) hI2)
      by_cases c28 : op = (28 : Int32)
      · refine mz_tswK (pc := 40) (tgt := 1159) (k := (28 : Int32)) (off := 1119) c28 dl_40 (by decide) (by decide) rfl rfl ?_
        obtain ⟨r, M1, M2, f1, f2, hI2⟩ := o28 M hI (xs (x4 + (1 : Int32)).toNatClampNeg) (xs (x4 + (2 : Int32)).toNatClampNeg)
        exact Lc_28 N h1 h2 (by omega) (by omega) f1 f2 (next M2 _ _ (by omega) (by omega) hI2)
      by_cases c29 : op = (29 : Int32)
      · refine mz_tswK (pc := 40) (tgt := 1196) (k := (29 : Int32)) (off := 1156) c29 dl_40 (by decide) (by decide) rfl rfl ?_
        obtain ⟨r, M1, M2, f1, f2, hI2⟩ := o29 M hI (xs (x4 + (1 : Int32)).toNatClampNeg) (xs (x4 + (2 : Int32)).toNatClampNeg) (xs (x4 + (3 : Int32)).toNatClampNeg) (xs (x4 + (4 : Int32)).toNatClampNeg)
        exact Lc_29 N h1 h2 h3 h4 (by omega) (by omega) f1 f2 (next M2 _ _ (by omega) (by omega) hI2)
      by_cases c30 : op = (30 : Int32)
      · refine mz_tswK (pc := 40) (tgt := 1257) (k := (30 : Int32)) (off := 1217) c30 dl_40 (by decide) (by decide) rfl rfl ?_
        obtain ⟨r, M1, M2, f1, f2, hI2⟩ := o30 M hI
        exact Lc_30 N  (by omega) (by omega) f1 f2 (next M2 _ _ (by omega) (by omega) hI2)
      by_cases c31 : op = (31 : Int32)
      · refine mz_tswK (pc := 40) (tgt := 1270) (k := (31 : Int32)) (off := 1230) c31 dl_40 (by decide) (by decide) rfl rfl ?_
        obtain ⟨r, M1, M2, f1, f2, hI2⟩ := o31 M hI (xs (x4 + (1 : Int32)).toNatClampNeg) (xs (x4 + (2 : Int32)).toNatClampNeg)
        exact Lc_31 N h1 h2 (by omega) (by omega) f1 f2 (next M2 _ _ (by omega) (by omega) hI2)
      by_cases c32 : op = (32 : Int32)
      · refine mz_tswK (pc := 40) (tgt := 1307) (k := (32 : Int32)) (off := 1267) c32 dl_40 (by decide) (by decide) rfl rfl ?_
        obtain ⟨r, M1, M2, f1, f2, hI2⟩ := o32 M hI (xs (x4 + (1 : Int32)).toNatClampNeg) (xs (x4 + (2 : Int32)).toNatClampNeg)
        exact Lc_32 N h1 h2 (by omega) (by omega) f1 f2 (next M2 _ _ (by omega) (by omega) hI2)
      by_cases c33 : op = (33 : Int32)
      · refine mz_tswK (pc := 40) (tgt := 1344) (k := (33 : Int32)) (off := 1304) c33 dl_40 (by decide) (by decide) rfl rfl ?_
        obtain ⟨r, M1, M2, f1, f2, hI2⟩ := o33 M hI (xs (x4 + (1 : Int32)).toNatClampNeg) (xs (x4 + (2 : Int32)).toNatClampNeg)
        exact Lc_33 N h1 h2 (by omega) (by omega) f1 f2 (next M2 _ _ (by omega) (by omega) hI2)
      by_cases c34 : op = (34 : Int32)
      · refine mz_tswK (pc := 40) (tgt := 1381) (k := (34 : Int32)) (off := 1341) c34 dl_40 (by decide) (by decide) rfl rfl ?_
        obtain ⟨r, M1, M2, f1, f2, hI2⟩ := o34 M hI (xs (x4 + (1 : Int32)).toNatClampNeg)
        exact Lc_34 N h1 (by omega) (by omega) f1 f2 (next M2 _ _ (by omega) (by omega) hI2)
      by_cases c35 : op = (35 : Int32)
      · refine mz_tswK (pc := 40) (tgt := 1406) (k := (35 : Int32)) (off := 1366) c35 dl_40 (by decide) (by decide) rfl rfl ?_
        obtain ⟨r, M1, M2, f1, f2, hI2⟩ := o35 M hI (xs (x4 + (1 : Int32)).toNatClampNeg)
        exact Lc_35 N h1 (by omega) (by omega) f1 f2 (next M2 _ _ (by omega) (by omega) hI2)
      by_cases c36 : op = (36 : Int32)
      · refine mz_tswK (pc := 40) (tgt := 1431) (k := (36 : Int32)) (off := 1391) c36 dl_40 (by decide) (by decide) rfl rfl ?_
        obtain ⟨r, M1, M2, f1, f2, hI2⟩ := o36 M hI
        exact Lc_36 N  (by omega) (by omega) f1 f2 (next M2 _ _ (by omega) (by omega) hI2)
      by_cases c37 : op = (37 : Int32)
      · refine mz_tswK (pc := 40) (tgt := 1444) (k := (37 : Int32)) (off := 1404) c37 dl_40 (by decide) (by decide) rfl rfl ?_
        obtain ⟨r, M1, M2, f1, f2, hI2⟩ := o37 M hI
        exact Lc_37 N  (by omega) (by omega) f1 f2 (next M2 _ _ (by omega) (by omega) hI2)
      by_cases c38 : op = (38 : Int32)
      · refine mz_tswK (pc := 40) (tgt := 1457) (k := (38 : Int32)) (off := 1417) c38 dl_40 (by decide) (by decide) rfl rfl ?_
        obtain ⟨r, M1, M2, f1, f2, hI2⟩ := o38 M hI (xs (x4 + (1 : Int32)).toNatClampNeg)
        exact Lc_38 N h1 (by omega) (by omega) f1 f2 (next M2 _ _ (by omega) (by omega) hI2)
      refine mz_tswD (pc := 40) (tgt := 1482) [0, 1, 2, 3, 4, 5, 6, 7, 8, 9, 10, 11, 12, 13, 14, 15, 16, 17, 18, 19, 20, 21, 22, 23, 24, 25, 26, 27, 28, 29, 30, 31, 32, 33, 34, 35, 36, 37, 38] (mj_k1 (mj_ni (k := (0 : Int32)) (n := 0) (by decide) c0) (mj_k1 (mj_ni (k := (1 : Int32)) (n := 1) (by decide) c1) (mj_k1 (mj_ni (k := (2 : Int32)) (n := 2) (by decide) c2) (mj_k1 (mj_ni (k := (3 : Int32)) (n := 3) (by decide) c3) (mj_k1 (mj_ni (k := (4 : Int32)) (n := 4) (by decide) c4) (mj_k1 (mj_ni (k := (5 : Int32)) (n := 5) (by decide) c5) (mj_k1 (mj_ni (k := (6 : Int32)) (n := 6) (by decide) c6) (mj_k1 (mj_ni (k := (7 : Int32)) (n := 7) (by decide) c7) (mj_k1 (mj_ni (k := (8 : Int32)) (n := 8) (by decide) c8) (mj_k1 (mj_ni (k := (9 : Int32)) (n := 9) (by decide) c9) (mj_k1 (mj_ni (k := (10 : Int32)) (n := 10) (by decide) c10) (mj_k1 (mj_ni (k := (11 : Int32)) (n := 11) (by decide) c11) (mj_k1 (mj_ni (k := (12 : Int32)) (n := 12) (by decide) c12) (mj_k1 (mj_ni (k := (13 : Int32)) (n := 13) (by decide) c13) (mj_k1 (mj_ni (k := (14 : Int32)) (n := 14) (by decide) c14) (mj_k1 (mj_ni (k := (15 : Int32)) (n := 15) (by decide) c15) (mj_k1 (mj_ni (k := (16 : Int32)) (n := 16) (by decide) c16) (mj_k1 (mj_ni (k := (17 : Int32)) (n := 17) (by decide) c17) (mj_k1 (mj_ni (k := (18 : Int32)) (n := 18) (by decide) c18) (mj_k1 (mj_ni (k := (19 : Int32)) (n := 19) (by decide) c19) (mj_k1 (mj_ni (k := (20 : Int32)) (n := 20) (by decide) c20) (mj_k1 (mj_ni (k := (21 : Int32)) (n := 21) (by decide) c21) (mj_k1 (mj_ni (k := (22 : Int32)) (n := 22) (by decide) c22) (mj_k1 (mj_ni (k := (23 : Int32)) (n := 23) (by decide) c23) (mj_k1 (mj_ni (k := (24 : Int32)) (n := 24) (by decide) c24) (mj_k1 (mj_ni (k := (25 : Int32)) (n := 25) (by decide) c25) (mj_k1 (mj_ni (k := (26 : Int32)) (n := 26) (by decide) c26) (mj_k1 (mj_ni (k := (27 : Int32)) (n := 27) (by decide) c27) (mj_k1 (mj_ni (k := (28 : Int32)) (n := 28) (by decide) c28) (mj_k1 (mj_ni (k := (29 : Int32)) (n := 29) (by decide) c29) (mj_k1 (mj_ni (k := (30 : Int32)) (n := 30) (by decide) c30) (mj_k1 (mj_ni (k := (31 : Int32)) (n := 31) (by decide) c31) (mj_k1 (mj_ni (k := (32 : Int32)) (n := 32) (by decide) c32) (mj_k1 (mj_ni (k := (33 : Int32)) (n := 33) (by decide) c33) (mj_k1 (mj_ni (k := (34 : Int32)) (n := 34) (by decide) c34) (mj_k1 (mj_ni (k := (35 : Int32)) (n := 35) (by decide) c35) (mj_k1 (mj_ni (k := (36 : Int32)) (n := 36) (by decide) c36) (mj_k1 (mj_ni (k := (37 : Int32)) (n := 37) (by decide) c37) (mj_k1 (mj_ni (k := (38 : Int32)) (n := 38) (by decide) c38) mj_k0))))))))))))))))))))))))))))))))))))))) dl_40 (by decide) (by decide) rfl ?_
      exact next M _ _ (by omega) (by omega) hI
