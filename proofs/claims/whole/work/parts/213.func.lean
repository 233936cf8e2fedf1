/-! ===== functions and their proofs ===== -/
def F_M_draw (x1 : Int32) (M : mj_M) : Option (Int32 × mj_M) :=
    mj_lt (mj_u (mj_u M 48 33 (mj_hi (((mj_cat (M 48 33) (M 48 1033)) * (6364136223846793005 : Int64)) + (1442695040888963407 : Int64)))) 48 (33 + 1000) (mj_lo (((mj_cat (M 48 33) (M 48 1033)) * (6364136223846793005 : Int64)) + (1442695040888963407 : Int64)))) (fun M1 =>
     if x1.toInt64 = 0 then none else
     some (((mj_lus (mj_cat (M1 48 33) (M1 48 1033)) (33 : Int32)) - (mj_lus (mj_cat (M1 48 33) (M1 48 1033)) (33 : Int32)) / x1.toInt64 * x1.toInt64).toInt32, M1))
set_option maxRecDepth 20000 in
theorem T_M_draw {g : mj_G} : ∀ d, 1 ≤ d → ∀ (x1 : Int32) (M : mj_M), mj_Mt g (mj_qI g) d y_M_draw c_M_draw 2 (some .int) [.ref 48, .int x1] M (F_M_draw x1 M) := by
  intro d hd x1 M
  obtain ⟨e, rfl⟩ : ∃ e, d = e + 1 := ⟨d - 1, by omega⟩
  have he : 0 ≤ e := by omega
  refine mj_met (by decide +kernel) (Nat.le_of_ble_eq_true rfl) ?_
  unfold F_M_draw
  refine mj_L (L' := [(0, .ref 48), (1, .int x1)]) [0, 1] rfl ?_
  refine mj_aload_n (pc := 0) (i := 0) rfl dd_M_draw_0 ?_
  refine mj_aload_n (pc := 1) (i := 0) rfl dd_M_draw_1 ?_
  refine mj_getJ (pc := 2) (b := 48) (k := 33) qf_M_335 sh_48 cl_12 rfl (by decide) rfl dd_M_draw_2 ?_
  refine mj_ldc2 (pc := 5) qd_M_339 dd_M_draw_5 ?_
  refine mj_lmul (pc := 8) dd_M_draw_8 ?_
  refine mj_ldc2 (pc := 9) qd_M_341 dd_M_draw_9 ?_
  refine mj_ladd (pc := 12) dd_M_draw_12 ?_
  refine mj_putJ (pc := 13) (b := 48) (k := 33) qf_M_335 sh_48 cl_12 rfl (by decide) (by decide) rfl rfl rfl dd_M_draw_13 (fun M1 _ => ?_)
  refine mj_aload_n (pc := 16) (i := 0) rfl dd_M_draw_16 ?_
  refine mj_getJ (pc := 17) (b := 48) (k := 33) qf_M_335 sh_48 cl_12 rfl (by decide) rfl dd_M_draw_17 ?_
  refine mj_bipush (pc := 20) (v := (33 : Int32)) (by decide) dd_M_draw_20 ?_
  refine mj_lushr (pc := 22) dd_M_draw_22 ?_
  refine mj_iload_n (pc := 23) (i := 1) rfl dd_M_draw_23 ?_
  refine mj_i2l (pc := 24) dd_M_draw_24 ?_
  refine mj_lrem (pc := 25) dd_M_draw_25 ?_
  refine mj_l2i (pc := 26) dd_M_draw_26 ?_
  exact mj_iret dd_M_draw_27 rfl rfl
def F_M_drawRound_b85 (N : Nat) (M : mj_M) : Option (mj_M) :=
    (F_M_draw (10 : Int32) M).bind (fun q15 =>
     if (q15.2 48 30) ≤ q15.1 then
     (some q15.2)
     else
     (mj_lt (mj_u q15.2 65 44 (mj_min (999 : Int32) ((q15.2 65 44) + (3 : Int32)))) (fun M17 =>
     some M17)))
set_option maxRecDepth 20000 in
theorem T_M_drawRound_b85 {g : mj_G} (N : Nat) (e : Nat) (he : 8 ≤ e) (M : mj_M) : mj_X g (mj_qV g) "WinterTellersModel" c_M_drawRound 4 none e 85 [(0, .ref 48)] [] M (F_M_drawRound_b85 N M) := by
  unfold F_M_drawRound_b85
  refine mj_aload_n (pc := 85) (i := 0) rfl dd_M_drawRound_85 ?_
  refine mj_bipush (pc := 86) (v := (10 : Int32)) (by decide) dd_M_drawRound_86 ?_
  refine mj_callVI (pc := 88) (idx := 343) (b := 48) (As := [.int (10 : Int32)]) (st := []) sh_48 cl_12 ev_M_draw ql_M_343 rfl (Nat.le_of_ble_eq_true rfl) (T_M_draw (g := g) e (by omega) (10 : Int32) M) dd_M_drawRound_88 (fun q15 hq15 => ?_)
  refine mj_aload_n (pc := 91) (i := 0) rfl dd_M_drawRound_91 ?_
  refine mj_getI (pc := 92) (b := 48) (k := 30) qf_M_68 sh_48 cl_12 rfl (by decide) rfl dd_M_drawRound_92 ?_
  refine mj_icmp_ge (pc := 95) (tgt := 120) dd_M_drawRound_95 rfl (fun h16 => ?_) (fun h16 => ?_)
  · exact mj_vret dd_M_drawRound_120 rfl rfl
  · refine mj_aload_n (pc := 98) (i := 0) rfl dd_M_drawRound_98 ?_
    refine mj_getR (pc := 99) (b := 48) (k := 27) qf_M_58 sh_48 cl_12 rfl (by decide) (r := 65) rfl dd_M_drawRound_99 ?_
    refine mj_bipush (pc := 102) (v := (44 : Int32)) (by decide) dd_M_drawRound_102 ?_
    refine mj_sipush (pc := 104) (v := (999 : Int32)) (by decide) dd_M_drawRound_104 ?_
    refine mj_aload_n (pc := 107) (i := 0) rfl dd_M_drawRound_107 ?_
    refine mj_getR (pc := 108) (b := 48) (k := 27) qf_M_58 sh_48 cl_12 rfl (by decide) (r := 65) rfl dd_M_drawRound_108 ?_
    refine mj_bipush (pc := 111) (v := (44 : Int32)) (by decide) dd_M_drawRound_111 ?_
    refine mj_ialdK (pc := 113) (j := 44) sh_65 (by decide) rfl dd_M_drawRound_113 ?_
    refine mj_iconst (pc := 114) (v := (3 : Int32)) (by decide) dd_M_drawRound_114 ?_
    refine mj_iadd (pc := 115) dd_M_drawRound_115 ?_
    refine mj_mmin (pc := 116) (idx := 273) qm_M_273 (Nat.le_of_ble_eq_true rfl) dd_M_drawRound_116 ?_
    refine mj_iastK (pc := 119) (j := 44) sh_65 (by decide) rfl dd_M_drawRound_119 (fun M17 _ => ?_)
    exact mj_vret dd_M_drawRound_120 rfl rfl
def F_M_drawRound_b54 (N : Nat) (M : mj_M) : Option (mj_M) :=
    (F_M_draw (M 48 26) M).bind (fun q9 =>
     (F_M_owns q9.1 q9.2).bind (fun q10 =>
     if q10.1 = (0) then
     (F_M_drawRound_b85 N q10.2)
     else
     ((F_M_isTooLong N q9.1 q10.2).bind (fun q12 =>
     if q12.1 = (0) then
     ((F_M_tellLogged N q9.1 q12.2).bind (fun q14 =>
     F_M_drawRound_b85 N q14.2))
     else
     (F_M_drawRound_b85 N q12.2)))))
set_option maxRecDepth 20000 in
theorem T_M_drawRound_b54 {g : mj_G} (N : Nat) (e : Nat) (he : 8 ≤ e) (M : mj_M) : mj_X g (mj_qV g) "WinterTellersModel" c_M_drawRound 4 none e 54 [(0, .ref 48)] [] M (F_M_drawRound_b54 N M) := by
  unfold F_M_drawRound_b54
  refine mj_aload_n (pc := 54) (i := 0) rfl dd_M_drawRound_54 ?_
  refine mj_aload_n (pc := 55) (i := 0) rfl dd_M_drawRound_55 ?_
  refine mj_getI (pc := 56) (b := 48) (k := 26) qf_M_245 sh_48 cl_12 rfl (by decide) rfl dd_M_drawRound_56 ?_
  refine mj_callVI (pc := 59) (idx := 343) (b := 48) (As := [.int (M 48 26)]) (st := []) sh_48 cl_12 ev_M_draw ql_M_343 rfl (Nat.le_of_ble_eq_true rfl) (T_M_draw (g := g) e (by omega) (M 48 26) M) dd_M_drawRound_59 (fun q9 hq9 => ?_)
  refine mj_istore_n (pc := 62) (by decide) dd_M_drawRound_62 ?_
  refine mj_L (L' := [(3, .int q9.1), (0, .ref 48)]) [0, 1] rfl ?_
  refine mj_aload_n (pc := 63) (i := 0) rfl dd_M_drawRound_63 ?_
  refine mj_iload_n (pc := 64) (i := 3) rfl dd_M_drawRound_64 ?_
  refine mj_callVI (pc := 65) (idx := 309) (b := 48) (As := [.int q9.1]) (st := []) sh_48 cl_12 ev_M_owns ql_M_309 rfl (Nat.le_of_ble_eq_true rfl) (T_M_owns (g := g) e (by omega) q9.1 q9.2) dd_M_drawRound_65 (fun q10 hq10 => ?_)
  refine mj_if_eq (pc := 68) (tgt := 85) dd_M_drawRound_68 rfl (fun h11 => ?_) (fun h11 => ?_)
  · refine mj_L (L' := [(0, .ref 48)]) [1] rfl ?_
    exact T_M_drawRound_b85 (g := g) N e he q10.2
  · refine mj_aload_n (pc := 71) (i := 0) rfl dd_M_drawRound_71 ?_
    refine mj_iload_n (pc := 72) (i := 3) rfl dd_M_drawRound_72 ?_
    refine mj_callVI (pc := 73) (idx := 315) (b := 48) (As := [.int q9.1]) (st := []) sh_48 cl_12 ev_M_isTooLong ql_M_315 rfl (Nat.le_of_ble_eq_true rfl) (T_M_isTooLong (g := g) N e (by omega) q9.1 q10.2) dd_M_drawRound_73 (fun q12 hq12 => ?_)
    refine mj_if_ne (pc := 76) (tgt := 85) dd_M_drawRound_76 rfl (fun h13 => ?_) (fun h13 => ?_)
    · refine mj_aload_n (pc := 79) (i := 0) rfl dd_M_drawRound_79 ?_
      refine mj_iload_n (pc := 80) (i := 3) rfl dd_M_drawRound_80 ?_
      refine mj_callVI (pc := 81) (idx := 324) (b := 48) (As := [.int q9.1]) (st := []) sh_48 cl_12 ev_M_tellLogged ql_M_324 rfl (Nat.le_of_ble_eq_true rfl) (T_M_tellLogged (g := g) N e (by omega) q9.1 q12.2) dd_M_drawRound_81 (fun q14 hq14 => ?_)
      refine mj_pop (pc := 84) rfl dd_M_drawRound_84 ?_
      refine mj_L (L' := [(0, .ref 48)]) [1] rfl ?_
      exact T_M_drawRound_b85 (g := g) N e he q14.2
    · refine mj_L (L' := [(0, .ref 48)]) [1] rfl ?_
      exact T_M_drawRound_b85 (g := g) N e he q12.2
def F_M_drawRound (N : Nat) (M : mj_M) : Option (mj_M) :=
    (F_M_draw (M 48 25) M).bind (fun q1 =>
     (F_M_farTo q1.1 q1.2).bind (fun q2 =>
     if q2.1 ≤ (0) then
     (F_M_drawRound_b54 N q2.2)
     else
     (if (q2.2 65 44) < q2.1 then
     (F_M_drawRound_b54 N q2.2)
     else
     ((F_M_isLate q2.1 q2.2).bind (fun q5 =>
     if q5.1 = (0) then
     ((F_M_goNow q1.1 q5.2).bind (fun q7 =>
     mj_lt (mj_u q7 65 45 ((q7 65 45) + q2.1)) (fun M8 =>
     F_M_drawRound_b54 N M8)))
     else
     (F_M_drawRound_b54 N q5.2))))))
set_option maxRecDepth 20000 in
theorem T_M_drawRound {g : mj_G} (N : Nat) : ∀ d, 9 ≤ d → ∀ (M : mj_M), mj_Mt g (mj_qV g) d y_M_drawRound c_M_drawRound 4 none [.ref 48] M (F_M_drawRound N M) := by
  intro d hd M
  obtain ⟨e, rfl⟩ : ∃ e, d = e + 1 := ⟨d - 1, by omega⟩
  have he : 8 ≤ e := by omega
  refine mj_met (by decide +kernel) (Nat.le_of_ble_eq_true rfl) ?_
  unfold F_M_drawRound
  refine mj_L (L' := [(0, .ref 48)]) [0] rfl ?_
  refine mj_aload_n (pc := 0) (i := 0) rfl dd_M_drawRound_0 ?_
  refine mj_aload_n (pc := 1) (i := 0) rfl dd_M_drawRound_1 ?_
  refine mj_getI (pc := 2) (b := 48) (k := 25) qf_M_242 sh_48 cl_12 rfl (by decide) rfl dd_M_drawRound_2 ?_
  refine mj_callVI (pc := 5) (idx := 343) (b := 48) (As := [.int (M 48 25)]) (st := []) sh_48 cl_12 ev_M_draw ql_M_343 rfl (Nat.le_of_ble_eq_true rfl) (T_M_draw (g := g) e (by omega) (M 48 25) M) dd_M_drawRound_5 (fun q1 hq1 => ?_)
  refine mj_istore_n (pc := 8) (by decide) dd_M_drawRound_8 ?_
  refine mj_L (L' := [(1, .int q1.1), (0, .ref 48)]) [0, 1] rfl ?_
  refine mj_aload_n (pc := 9) (i := 0) rfl dd_M_drawRound_9 ?_
  refine mj_iload_n (pc := 10) (i := 1) rfl dd_M_drawRound_10 ?_
  refine mj_callVI (pc := 11) (idx := 290) (b := 48) (As := [.int q1.1]) (st := []) sh_48 cl_12 ev_M_farTo ql_M_290 rfl (Nat.le_of_ble_eq_true rfl) (T_M_farTo (g := g) e (by omega) q1.1 q1.2) dd_M_drawRound_11 (fun q2 hq2 => ?_)
  refine mj_istore_n (pc := 14) (by decide) dd_M_drawRound_14 ?_
  refine mj_L (L' := [(2, .int q2.1), (1, .int q1.1), (0, .ref 48)]) [0, 1, 2] rfl ?_
  refine mj_iload_n (pc := 15) (i := 2) rfl dd_M_drawRound_15 ?_
  refine mj_if_le (pc := 16) (tgt := 54) dd_M_drawRound_16 rfl (fun h3 => ?_) (fun h3 => ?_)
  · refine mj_L (L' := [(0, .ref 48)]) [2] rfl ?_
    exact T_M_drawRound_b54 (g := g) N e he q2.2
  · refine mj_aload_n (pc := 19) (i := 0) rfl dd_M_drawRound_19 ?_
    refine mj_getR (pc := 20) (b := 48) (k := 27) qf_M_58 sh_48 cl_12 rfl (by decide) (r := 65) rfl dd_M_drawRound_20 ?_
    refine mj_bipush (pc := 23) (v := (44 : Int32)) (by decide) dd_M_drawRound_23 ?_
    refine mj_ialdK (pc := 25) (j := 44) sh_65 (by decide) rfl dd_M_drawRound_25 ?_
    refine mj_iload_n (pc := 26) (i := 2) rfl dd_M_drawRound_26 ?_
    refine mj_icmp_lt (pc := 27) (tgt := 54) dd_M_drawRound_27 rfl (fun h4 => ?_) (fun h4 => ?_)
    · refine mj_L (L' := [(0, .ref 48)]) [2] rfl ?_
      exact T_M_drawRound_b54 (g := g) N e he q2.2
    · refine mj_aload_n (pc := 30) (i := 0) rfl dd_M_drawRound_30 ?_
      refine mj_iload_n (pc := 31) (i := 2) rfl dd_M_drawRound_31 ?_
      refine mj_callVI (pc := 32) (idx := 312) (b := 48) (As := [.int q2.1]) (st := []) sh_48 cl_12 ev_M_isLate ql_M_312 rfl (Nat.le_of_ble_eq_true rfl) (T_M_isLate (g := g) e (by omega) q2.1 q2.2) dd_M_drawRound_32 (fun q5 hq5 => ?_)
      refine mj_if_ne (pc := 35) (tgt := 54) dd_M_drawRound_35 rfl (fun h6 => ?_) (fun h6 => ?_)
      · refine mj_aload_n (pc := 38) (i := 0) rfl dd_M_drawRound_38 ?_
        refine mj_iload_n (pc := 39) (i := 1) rfl dd_M_drawRound_39 ?_
        refine mj_callVV (pc := 40) (idx := 327) (b := 48) (As := [.int q1.1]) (st := []) sh_48 cl_12 ev_M_goNow ql_M_327 rfl (Nat.le_of_ble_eq_true rfl) (T_M_goNow (g := g) e (by omega) q1.1 q5.2) dd_M_drawRound_40 (fun q7 hq7 => ?_)
        refine mj_aload_n (pc := 43) (i := 0) rfl dd_M_drawRound_43 ?_
        refine mj_getR (pc := 44) (b := 48) (k := 27) qf_M_58 sh_48 cl_12 rfl (by decide) (r := 65) rfl dd_M_drawRound_44 ?_
        refine mj_bipush (pc := 47) (v := (45 : Int32)) (by decide) dd_M_drawRound_47 ?_
        refine mj_dup2 (pc := 49) rfl rfl dd_M_drawRound_49 ?_
        refine mj_ialdK (pc := 50) (j := 45) sh_65 (by decide) rfl dd_M_drawRound_50 ?_
        refine mj_iload_n (pc := 51) (i := 2) rfl dd_M_drawRound_51 ?_
        refine mj_iadd (pc := 52) dd_M_drawRound_52 ?_
        refine mj_iastK (pc := 53) (j := 45) sh_65 (by decide) rfl dd_M_drawRound_53 (fun M8 _ => ?_)
        refine mj_L (L' := [(0, .ref 48)]) [2] rfl ?_
        exact T_M_drawRound_b54 (g := g) N e he M8
      · refine mj_L (L' := [(0, .ref 48)]) [2] rfl ?_
        exact T_M_drawRound_b54 (g := g) N e he q5.2
def F_M_years_b27 (N : Nat) : Nat → Int32 → Int32 → mj_M → Option (Int32 × mj_M)
  | 0, _, _, _ => none
  | n + 1, x1, x4, M =>
    if x1 ≤ x4 then
     (some (M 65 45, M))
     else
     ((F_M_keep N M).bind (fun q6 =>
     (F_M_drawRound N q6).bind (fun q7 =>
     F_M_years_b27 N n x1 (x4 + (1 : Int32)) q7)))
set_option maxRecDepth 20000 in
theorem T_M_years_b27 {g : mj_G} (N : Nat) (e : Nat) (he : 9 ≤ e) : ∀ (n : Nat) (x1 : Int32) (x4 : Int32) (M : mj_M), mj_X g (mj_qI g) "WinterTellersModel" c_M_years 5 (some .int) e 27 [(0, .ref 48), (1, .int x1), (4, .int x4)] [] M (F_M_years_b27 N n x1 x4 M) := by
  intro n
  induction n with
  | zero => intro x1 x4 M; exact mj_none
  | succ n ih =>
    intro x1 x4 M
    rw [F_M_years_b27]
    refine mj_iload (pc := 27) (i := 4) rfl dd_M_years_27 ?_
    refine mj_iload_n (pc := 29) (i := 1) rfl dd_M_years_29 ?_
    refine mj_icmp_ge (pc := 30) (tgt := 47) dd_M_years_30 rfl (fun h5 => ?_) (fun h5 => ?_)
    · refine mj_aload_n (pc := 47) (i := 0) rfl dd_M_years_47 ?_
      refine mj_getR (pc := 48) (b := 48) (k := 27) qf_M_58 sh_48 cl_12 rfl (by decide) (r := 65) rfl dd_M_years_48 ?_
      refine mj_bipush (pc := 51) (v := (45 : Int32)) (by decide) dd_M_years_51 ?_
      refine mj_ialdK (pc := 53) (j := 45) sh_65 (by decide) rfl dd_M_years_53 ?_
      exact mj_iret dd_M_years_54 rfl rfl
    · refine mj_aload_n (pc := 33) (i := 0) rfl dd_M_years_33 ?_
      refine mj_callVV (pc := 34) (idx := 321) (b := 48) (As := []) (st := []) sh_48 cl_12 ev_M_keep ql_M_321 rfl (Nat.le_of_ble_eq_true rfl) (T_M_keep (g := g) N e (by omega) M) dd_M_years_34 (fun q6 hq6 => ?_)
      refine mj_aload_n (pc := 37) (i := 0) rfl dd_M_years_37 ?_
      refine mj_callVV (pc := 38) (idx := 346) (b := 48) (As := []) (st := []) sh_48 cl_12 ev_M_drawRound ql_M_346 rfl (Nat.le_of_ble_eq_true rfl) (T_M_drawRound (g := g) N e (by omega) q6) dd_M_years_38 (fun q7 hq7 => ?_)
      refine mj_iinc (pc := 41) (i := 4) (z := (1 : Int32)) rfl (by decide) (by decide) dd_M_years_41 ?_
      refine mj_L (L' := [(4, .int (x4 + (1 : Int32))), (0, .ref 48), (1, .int x1)]) [0, 1, 2] rfl ?_
      refine mj_goto (pc := 44) (tgt := 27) dd_M_years_44 rfl ?_
      refine mj_L (L' := [(0, .ref 48), (1, .int x1), (4, .int (x4 + (1 : Int32)))]) [1, 2, 0] rfl ?_
      exact ih x1 (x4 + (1 : Int32)) q7
def F_M_years (N : Nat) (x1 : Int32) (x2 : Int64) (M : mj_M) : Option (Int32 × mj_M) :=
    if (M 48 25) = (0) then
     (some ((-1 : Int32), M))
     else
     ((F_M_in x1 (1 : Int32) (60 : Int32) M).bind (fun q2 =>
     if q2.1 = (0) then
     (some ((-1 : Int32), q2.2))
     else
     (mj_lt (mj_u (mj_u q2.2 48 33 (mj_hi x2)) 48 (33 + 1000) (mj_lo x2)) (fun M4 =>
     F_M_years_b27 N N x1 (0 : Int32) M4))))
set_option maxRecDepth 20000 in
theorem T_M_years {g : mj_G} (N : Nat) : ∀ d, 10 ≤ d → ∀ (x1 : Int32) (x2 : Int64) (M : mj_M), mj_Mt g (mj_qI g) d y_M_years c_M_years 5 (some .int) [.ref 48, .int x1, .long x2] M (F_M_years N x1 x2 M) := by
  intro d hd x1 x2 M
  obtain ⟨e, rfl⟩ : ∃ e, d = e + 1 := ⟨d - 1, by omega⟩
  have he : 9 ≤ e := by omega
  refine mj_met (by decide +kernel) (Nat.le_of_ble_eq_true rfl) ?_
  unfold F_M_years
  refine mj_L (L' := [(0, .ref 48), (1, .int x1), (2, .long x2)]) [0, 1, 2] rfl ?_
  refine mj_aload_n (pc := 0) (i := 0) rfl dd_M_years_0 ?_
  refine mj_getI (pc := 1) (b := 48) (k := 25) qf_M_242 sh_48 cl_12 rfl (by decide) rfl dd_M_years_1 ?_
  refine mj_if_eq (pc := 4) (tgt := 17) dd_M_years_4 rfl (fun h1 => ?_) (fun h1 => ?_)
  · refine mj_iconst (pc := 17) (v := (-1 : Int32)) (by decide) dd_M_years_17 ?_
    exact mj_iret dd_M_years_18 rfl rfl
  · refine mj_iload_n (pc := 7) (i := 1) rfl dd_M_years_7 ?_
    refine mj_iconst (pc := 8) (v := (1 : Int32)) (by decide) dd_M_years_8 ?_
    refine mj_bipush (pc := 9) (v := (60 : Int32)) (by decide) dd_M_years_9 ?_
    refine mj_callSI (pc := 11) (idx := 205) (As := [.int x1, .int (1 : Int32), .int (60 : Int32)]) (st := []) es_M_in ql_M_205 rfl (Nat.le_of_ble_eq_true rfl) (T_M_in (g := g) e (by omega) x1 (1 : Int32) (60 : Int32) M) dd_M_years_11 (fun q2 hq2 => ?_)
    refine mj_if_ne (pc := 14) (tgt := 19) dd_M_years_14 rfl (fun h3 => ?_) (fun h3 => ?_)
    · refine mj_iconst (pc := 17) (v := (-1 : Int32)) (by decide) dd_M_years_17 ?_
      exact mj_iret dd_M_years_18 rfl rfl
    · refine mj_aload_n (pc := 19) (i := 0) rfl dd_M_years_19 ?_
      refine mj_lload_n (pc := 20) (i := 2) rfl dd_M_years_20 ?_
      refine mj_putJ (pc := 21) (b := 48) (k := 33) qf_M_335 sh_48 cl_12 rfl (by decide) (by decide) rfl rfl rfl dd_M_years_21 (fun M4 _ => ?_)
      refine mj_iconst (pc := 24) (v := (0 : Int32)) (by decide) dd_M_years_24 ?_
      refine mj_istore (pc := 25) (by decide) dd_M_years_25 ?_
      refine mj_L (L' := [(4, .int (0 : Int32)), (0, .ref 48), (1, .int x1)]) [0, 1, 2] rfl ?_
      refine mj_L (L' := [(0, .ref 48), (1, .int x1), (4, .int (0 : Int32))]) [1, 2, 0] rfl ?_
      exact T_M_years_b27 (g := g) N e he N x1 (0 : Int32) M4
def F_W_status (x1 : Int32) (M : mj_M) : Option (Int32 × mj_M) :=
    if x1 < (0) then
     (some ((-1 : Int32), M))
     else
     (if (5 : Int32) ≤ x1 then
     (some ((-1 : Int32), M))
     else
     (mj_ck x1 5 (
     some (M 1 x1.toNatClampNeg, M))))
set_option maxRecDepth 20000 in
theorem T_W_status {g : mj_G} : ∀ d, 1 ≤ d → ∀ (x1 : Int32) (M : mj_M), mj_Mt g (mj_qI g) d y_W_status c_W_status 2 (some .int) [.ref 0, .int x1] M (F_W_status x1 M) := by
  intro d hd x1 M
  obtain ⟨e, rfl⟩ : ∃ e, d = e + 1 := ⟨d - 1, by omega⟩
  have he : 0 ≤ e := by omega
  refine mj_met (by decide +kernel) (Nat.le_of_ble_eq_true rfl) ?_
  unfold F_W_status
  refine mj_L (L' := [(0, .ref 0), (1, .int x1)]) [0, 1] rfl ?_
  refine mj_iload_n (pc := 0) (i := 1) rfl dd_W_status_0 ?_
  refine mj_if_lt (pc := 1) (tgt := 22) dd_W_status_1 rfl (fun h1 => ?_) (fun h1 => ?_)
  · refine mj_iconst (pc := 22) (v := (-1 : Int32)) (by decide) dd_W_status_22 ?_
    exact mj_iret dd_W_status_23 rfl rfl
  · refine mj_iload_n (pc := 4) (i := 1) rfl dd_W_status_4 ?_
    refine mj_aload_n (pc := 5) (i := 0) rfl dd_W_status_5 ?_
    refine mj_getR (pc := 6) (b := 0) (k := 11) qf_W_94 sh_0 cl_11 rfl (by decide) (r := 1) rfl dd_W_status_6 ?_
    refine mj_alen (pc := 9) (v := (5 : Int32)) sh_1 (by decide) dd_W_status_9 ?_
    refine mj_icmp_ge (pc := 10) (tgt := 22) dd_W_status_10 rfl (fun h2 => ?_) (fun h2 => ?_)
    · refine mj_iconst (pc := 22) (v := (-1 : Int32)) (by decide) dd_W_status_22 ?_
      exact mj_iret dd_W_status_23 rfl rfl
    · refine mj_aload_n (pc := 13) (i := 0) rfl dd_W_status_13 ?_
      refine mj_getR (pc := 14) (b := 0) (k := 11) qf_W_94 sh_0 cl_11 rfl (by decide) (r := 1) rfl dd_W_status_14 ?_
      refine mj_iload_n (pc := 17) (i := 1) rfl dd_W_status_17 ?_
      refine mj_iald (pc := 18) sh_1 dd_W_status_18 ?_
      refine mj_goto (pc := 19) (tgt := 23) dd_W_status_19 rfl ?_
      exact mj_iret dd_W_status_23 rfl rfl
def F_M_status (x1 : Int32) (M : mj_M) : Option (Int32 × mj_M) :=
    (F_M_in x1 (0 : Int32) (4 : Int32) M).bind (fun q1 =>
     if q1.1 = (0) then
     (some ((-1 : Int32), q1.2))
     else
     (mj_ck x1 5 (
     some (q1.2 66 x1.toNatClampNeg, q1.2))))
set_option maxRecDepth 20000 in
theorem T_M_status {g : mj_G} : ∀ d, 2 ≤ d → ∀ (x1 : Int32) (M : mj_M), mj_Mt g (mj_qI g) d y_M_status c_M_status 2 (some .int) [.ref 48, .int x1] M (F_M_status x1 M) := by
  intro d hd x1 M
  obtain ⟨e, rfl⟩ : ∃ e, d = e + 1 := ⟨d - 1, by omega⟩
  have he : 1 ≤ e := by omega
  refine mj_met (by decide +kernel) (Nat.le_of_ble_eq_true rfl) ?_
  unfold F_M_status
  refine mj_L (L' := [(0, .ref 48), (1, .int x1)]) [0, 1] rfl ?_
  refine mj_iload_n (pc := 0) (i := 1) rfl dd_M_status_0 ?_
  refine mj_iconst (pc := 1) (v := (0 : Int32)) (by decide) dd_M_status_1 ?_
  refine mj_iconst (pc := 2) (v := (4 : Int32)) (by decide) dd_M_status_2 ?_
  refine mj_callSI (pc := 3) (idx := 205) (As := [.int x1, .int (0 : Int32), .int (4 : Int32)]) (st := []) es_M_in ql_M_205 rfl (Nat.le_of_ble_eq_true rfl) (T_M_in (g := g) e (by omega) x1 (0 : Int32) (4 : Int32) M) dd_M_status_3 (fun q1 hq1 => ?_)
  refine mj_if_eq (pc := 6) (tgt := 18) dd_M_status_6 rfl (fun h2 => ?_) (fun h2 => ?_)
  · refine mj_iconst (pc := 18) (v := (-1 : Int32)) (by decide) dd_M_status_18 ?_
    exact mj_iret dd_M_status_19 rfl rfl
  · refine mj_aload_n (pc := 9) (i := 0) rfl dd_M_status_9 ?_
    refine mj_getR (pc := 10) (b := 48) (k := 28) qf_M_61 sh_48 cl_12 rfl (by decide) (r := 66) rfl dd_M_status_10 ?_
    refine mj_iload_n (pc := 13) (i := 1) rfl dd_M_status_13 ?_
    refine mj_iald (pc := 14) sh_66 dd_M_status_14 ?_
    refine mj_goto (pc := 15) (tgt := 19) dd_M_status_15 rfl ?_
    exact mj_iret dd_M_status_19 rfl rfl
def F_Stand_load_c25 (x2 : Int32) (M : mj_M) : Option (mj_M) :=
    mj_ck x2 1960 (
     mj_lt (mj_u M 20 0 (M 25 x2.toNatClampNeg)) (fun M1 =>
     mj_ck (x2 + (1 : Int32)) 1960 (
     mj_lt (mj_u M1 20 1 (M1 25 (x2 + (1 : Int32)).toNatClampNeg)) (fun M2 =>
     mj_ck (x2 + (2 : Int32)) 1960 (
     mj_lt (mj_u M2 20 2 (M2 25 (x2 + (2 : Int32)).toNatClampNeg)) (fun M3 =>
     mj_ck (x2 + (3 : Int32)) 1960 (
     mj_lt (mj_u M3 20 3 (M3 25 (x2 + (3 : Int32)).toNatClampNeg)) (fun M4 =>
     mj_ck (x2 + (4 : Int32)) 1960 (
     mj_lt (mj_u M4 20 4 (M4 25 (x2 + (4 : Int32)).toNatClampNeg)) (fun M5 =>
     mj_ck (x2 + (5 : Int32)) 1960 (
     mj_lt (mj_u M5 20 5 (M5 25 (x2 + (5 : Int32)).toNatClampNeg)) (fun M6 =>
     mj_ck (x2 + (6 : Int32)) 1960 (
     mj_lt (mj_u M6 20 6 (M6 25 (x2 + (6 : Int32)).toNatClampNeg)) (fun M7 =>
     mj_ac (x2 + (7 : Int32)) (0 : Int32) (6 : Int32) 1960 6 (mj_lt (mj_a M7 21 (va_cpy (M7 25) (M7 21) (x2 + (7 : Int32)).toNatClampNeg (0 : Int32).toNatClampNeg (6 : Int32).toNatClampNeg)) (fun M8 =>
     mj_ac ((x2 + (7 : Int32)) + (6 : Int32)) (0 : Int32) (36 : Int32) 1960 36 (mj_lt (mj_a M8 22 (va_cpy (M8 25) (M8 22) ((x2 + (7 : Int32)) + (6 : Int32)).toNatClampNeg (0 : Int32).toNatClampNeg (36 : Int32).toNatClampNeg)) (fun M9 =>
     some M9))))))))))))))))))
set_option maxRecDepth 20000 in
theorem T_Stand_load_c25 {g : mj_G} : ∀ d, 1 ≤ d → ∀ (x2 : Int32) (M : mj_M), mj_Mt g (mj_qV g) d y_Stand_load c_Stand_load 3 none [.ref 20, .ref 25, .int x2] M (F_Stand_load_c25 x2 M) := by
  intro d hd x2 M
  obtain ⟨e, rfl⟩ : ∃ e, d = e + 1 := ⟨d - 1, by omega⟩
  have he : 0 ≤ e := by omega
  refine mj_met (by decide +kernel) (Nat.le_of_ble_eq_true rfl) ?_
  unfold F_Stand_load_c25
  refine mj_L (L' := [(0, .ref 20), (1, .ref 25), (2, .int x2)]) [0, 1, 2] rfl ?_
  refine mj_aload_n (pc := 0) (i := 0) rfl dd_Stand_load_0 ?_
  refine mj_aload_n (pc := 1) (i := 1) rfl dd_Stand_load_1 ?_
  refine mj_iload_n (pc := 2) (i := 2) rfl dd_Stand_load_2 ?_
  refine mj_iald (pc := 3) sh_25 dd_Stand_load_3 ?_
  refine mj_putI (pc := 4) (b := 20) (k := 0) qf_Stand_29 sh_20 cl_8 rfl (by decide) (by decide) rfl rfl rfl dd_Stand_load_4 (fun M1 _ => ?_)
  refine mj_aload_n (pc := 7) (i := 0) rfl dd_Stand_load_7 ?_
  refine mj_aload_n (pc := 8) (i := 1) rfl dd_Stand_load_8 ?_
  refine mj_iload_n (pc := 9) (i := 2) rfl dd_Stand_load_9 ?_
  refine mj_iconst (pc := 10) (v := (1 : Int32)) (by decide) dd_Stand_load_10 ?_
  refine mj_iadd (pc := 11) dd_Stand_load_11 ?_
  refine mj_iald (pc := 12) sh_25 dd_Stand_load_12 ?_
  refine mj_putI (pc := 13) (b := 20) (k := 1) qf_Stand_37 sh_20 cl_8 rfl (by decide) (by decide) rfl rfl rfl dd_Stand_load_13 (fun M2 _ => ?_)
  refine mj_aload_n (pc := 16) (i := 0) rfl dd_Stand_load_16 ?_
  refine mj_aload_n (pc := 17) (i := 1) rfl dd_Stand_load_17 ?_
  refine mj_iload_n (pc := 18) (i := 2) rfl dd_Stand_load_18 ?_
  refine mj_iconst (pc := 19) (v := (2 : Int32)) (by decide) dd_Stand_load_19 ?_
  refine mj_iadd (pc := 20) dd_Stand_load_20 ?_
  refine mj_iald (pc := 21) sh_25 dd_Stand_load_21 ?_
  refine mj_putI (pc := 22) (b := 20) (k := 2) qf_Stand_41 sh_20 cl_8 rfl (by decide) (by decide) rfl rfl rfl dd_Stand_load_22 (fun M3 _ => ?_)
  refine mj_aload_n (pc := 25) (i := 0) rfl dd_Stand_load_25 ?_
  refine mj_aload_n (pc := 26) (i := 1) rfl dd_Stand_load_26 ?_
  refine mj_iload_n (pc := 27) (i := 2) rfl dd_Stand_load_27 ?_
  refine mj_iconst (pc := 28) (v := (3 : Int32)) (by decide) dd_Stand_load_28 ?_
  refine mj_iadd (pc := 29) dd_Stand_load_29 ?_
  refine mj_iald (pc := 30) sh_25 dd_Stand_load_30 ?_
  refine mj_putI (pc := 31) (b := 20) (k := 3) qf_Stand_42 sh_20 cl_8 rfl (by decide) (by decide) rfl rfl rfl dd_Stand_load_31 (fun M4 _ => ?_)
  refine mj_aload_n (pc := 34) (i := 0) rfl dd_Stand_load_34 ?_
  refine mj_aload_n (pc := 35) (i := 1) rfl dd_Stand_load_35 ?_
  refine mj_iload_n (pc := 36) (i := 2) rfl dd_Stand_load_36 ?_
  refine mj_iconst (pc := 37) (v := (4 : Int32)) (by decide) dd_Stand_load_37 ?_
  refine mj_iadd (pc := 38) dd_Stand_load_38 ?_
  refine mj_iald (pc := 39) sh_25 dd_Stand_load_39 ?_
  refine mj_putI (pc := 40) (b := 20) (k := 4) qf_Stand_45 sh_20 cl_8 rfl (by decide) (by decide) rfl rfl rfl dd_Stand_load_40 (fun M5 _ => ?_)
  refine mj_aload_n (pc := 43) (i := 0) rfl dd_Stand_load_43 ?_
  refine mj_aload_n (pc := 44) (i := 1) rfl dd_Stand_load_44 ?_
  refine mj_iload_n (pc := 45) (i := 2) rfl dd_Stand_load_45 ?_
  refine mj_iconst (pc := 46) (v := (5 : Int32)) (by decide) dd_Stand_load_46 ?_
  refine mj_iadd (pc := 47) dd_Stand_load_47 ?_
  refine mj_iald (pc := 48) sh_25 dd_Stand_load_48 ?_
  refine mj_putI (pc := 49) (b := 20) (k := 5) qf_Stand_48 sh_20 cl_8 rfl (by decide) (by decide) rfl rfl rfl dd_Stand_load_49 (fun M6 _ => ?_)
  refine mj_aload_n (pc := 52) (i := 0) rfl dd_Stand_load_52 ?_
  refine mj_aload_n (pc := 53) (i := 1) rfl dd_Stand_load_53 ?_
  refine mj_iload_n (pc := 54) (i := 2) rfl dd_Stand_load_54 ?_
  refine mj_bipush (pc := 55) (v := (6 : Int32)) (by decide) dd_Stand_load_55 ?_
  refine mj_iadd (pc := 57) dd_Stand_load_57 ?_
  refine mj_iald (pc := 58) sh_25 dd_Stand_load_58 ?_
  refine mj_putI (pc := 59) (b := 20) (k := 6) qf_Stand_51 sh_20 cl_8 rfl (by decide) (by decide) rfl rfl rfl dd_Stand_load_59 (fun M7 _ => ?_)
  refine mj_aload_n (pc := 62) (i := 1) rfl dd_Stand_load_62 ?_
  refine mj_iload_n (pc := 63) (i := 2) rfl dd_Stand_load_63 ?_
  refine mj_bipush (pc := 64) (v := (7 : Int32)) (by decide) dd_Stand_load_64 ?_
  refine mj_iadd (pc := 66) dd_Stand_load_66 ?_
  refine mj_aload_n (pc := 67) (i := 0) rfl dd_Stand_load_67 ?_
  refine mj_getR (pc := 68) (b := 20) (k := 7) qf_Stand_13 sh_20 cl_8 rfl (by decide) (r := 21) rfl dd_Stand_load_68 ?_
  refine mj_iconst (pc := 71) (v := (0 : Int32)) (by decide) dd_Stand_load_71 ?_
  refine mj_bipush (pc := 72) (v := (6 : Int32)) (by decide) dd_Stand_load_72 ?_
  refine mj_copy (pc := 74) (idx := 55) sh_25 sh_21 qm_Stand_55 (Nat.le_of_ble_eq_true rfl) dd_Stand_load_74 (fun M8 _ => ?_)
  refine mj_aload_n (pc := 77) (i := 1) rfl dd_Stand_load_77 ?_
  refine mj_iload_n (pc := 78) (i := 2) rfl dd_Stand_load_78 ?_
  refine mj_bipush (pc := 79) (v := (7 : Int32)) (by decide) dd_Stand_load_79 ?_
  refine mj_iadd (pc := 81) dd_Stand_load_81 ?_
  refine mj_bipush (pc := 82) (v := (6 : Int32)) (by decide) dd_Stand_load_82 ?_
  refine mj_iadd (pc := 84) dd_Stand_load_84 ?_
  refine mj_aload_n (pc := 85) (i := 0) rfl dd_Stand_load_85 ?_
  refine mj_getR (pc := 86) (b := 20) (k := 8) qf_Stand_17 sh_20 cl_8 rfl (by decide) (r := 22) rfl dd_Stand_load_86 ?_
  refine mj_iconst (pc := 89) (v := (0 : Int32)) (by decide) dd_Stand_load_89 ?_
  refine mj_bipush (pc := 90) (v := (36 : Int32)) (by decide) dd_Stand_load_90 ?_
  refine mj_copy (pc := 92) (idx := 55) sh_25 sh_22 qm_Stand_55 (Nat.le_of_ble_eq_true rfl) dd_Stand_load_92 (fun M9 _ => ?_)
  exact mj_vret dd_Stand_load_95 rfl rfl
def F_Past_takeBack_c20 (M : mj_M) : Option (mj_M) :=
    if (M 24 0) ≤ (0) then
     (some M)
     else
     (mj_lt (mj_u M 24 2 ((((M 24 2) + (40 : Int32)) - (1 : Int32)) - (((M 24 2) + (40 : Int32)) - (1 : Int32)) / (40 : Int32) * (40 : Int32))) (fun M2 =>
     mj_lt (mj_u M2 24 0 ((M2 24 0) - (1 : Int32))) (fun M3 =>
     (F_Stand_load_c25 ((M3 24 2) * (49 : Int32)) M3).bind (fun q4 =>
     some q4))))
set_option maxRecDepth 20000 in
theorem T_Past_takeBack_c20 {g : mj_G} : ∀ d, 2 ≤ d → ∀ (M : mj_M), mj_Mt g (mj_qV g) d y_Past_takeBack c_Past_takeBack 2 none [.ref 24, .ref 20] M (F_Past_takeBack_c20 M) := by
  intro d hd M
  obtain ⟨e, rfl⟩ : ∃ e, d = e + 1 := ⟨d - 1, by omega⟩
  have he : 1 ≤ e := by omega
  refine mj_met (by decide +kernel) (Nat.le_of_ble_eq_true rfl) ?_
  unfold F_Past_takeBack_c20
  refine mj_L (L' := [(0, .ref 24), (1, .ref 20)]) [0, 1] rfl ?_
  refine mj_aload_n (pc := 0) (i := 0) rfl dd_Past_takeBack_0 ?_
  refine mj_getI (pc := 1) (b := 24) (k := 0) qf_Past_21 sh_24 cl_6 rfl (by decide) rfl dd_Past_takeBack_1 ?_
  refine mj_if_le (pc := 4) (tgt := 48) dd_Past_takeBack_4 rfl (fun h1 => ?_) (fun h1 => ?_)
  · exact mj_vret dd_Past_takeBack_48 rfl rfl
  · refine mj_aload_n (pc := 7) (i := 0) rfl dd_Past_takeBack_7 ?_
    refine mj_aload_n (pc := 8) (i := 0) rfl dd_Past_takeBack_8 ?_
    refine mj_getI (pc := 9) (b := 24) (k := 2) qf_Past_29 sh_24 cl_6 rfl (by decide) rfl dd_Past_takeBack_9 ?_
    refine mj_bipush (pc := 12) (v := (40 : Int32)) (by decide) dd_Past_takeBack_12 ?_
    refine mj_iadd (pc := 14) dd_Past_takeBack_14 ?_
    refine mj_iconst (pc := 15) (v := (1 : Int32)) (by decide) dd_Past_takeBack_15 ?_
    refine mj_isub (pc := 16) dd_Past_takeBack_16 ?_
    refine mj_bipush (pc := 17) (v := (40 : Int32)) (by decide) dd_Past_takeBack_17 ?_
    refine mj_iremK (pc := 19) (by decide) dd_Past_takeBack_19 ?_
    refine mj_putI (pc := 20) (b := 24) (k := 2) qf_Past_29 sh_24 cl_6 rfl (by decide) (by decide) rfl rfl rfl dd_Past_takeBack_20 (fun M2 _ => ?_)
    refine mj_aload_n (pc := 23) (i := 0) rfl dd_Past_takeBack_23 ?_
    refine mj_dup (pc := 24) rfl dd_Past_takeBack_24 ?_
    refine mj_getI (pc := 25) (b := 24) (k := 0) qf_Past_21 sh_24 cl_6 rfl (by decide) rfl dd_Past_takeBack_25 ?_
    refine mj_iconst (pc := 28) (v := (1 : Int32)) (by decide) dd_Past_takeBack_28 ?_
    refine mj_isub (pc := 29) dd_Past_takeBack_29 ?_
    refine mj_putI (pc := 30) (b := 24) (k := 0) qf_Past_21 sh_24 cl_6 rfl (by decide) (by decide) rfl rfl rfl dd_Past_takeBack_30 (fun M3 _ => ?_)
    refine mj_aload_n (pc := 33) (i := 1) rfl dd_Past_takeBack_33 ?_
    refine mj_aload_n (pc := 34) (i := 0) rfl dd_Past_takeBack_34 ?_
    refine mj_getR (pc := 35) (b := 24) (k := 3) qf_Past_11 sh_24 cl_6 rfl (by decide) (r := 25) rfl dd_Past_takeBack_35 ?_
    refine mj_aload_n (pc := 38) (i := 0) rfl dd_Past_takeBack_38 ?_
    refine mj_getI (pc := 39) (b := 24) (k := 2) qf_Past_29 sh_24 cl_6 rfl (by decide) rfl dd_Past_takeBack_39 ?_
    refine mj_bipush (pc := 42) (v := (49 : Int32)) (by decide) dd_Past_takeBack_42 ?_
    refine mj_imul (pc := 44) dd_Past_takeBack_44 ?_
    refine mj_callVV (pc := 45) (idx := 42) (b := 20) (As := [.ref 25, .int ((M3 24 2) * (49 : Int32))]) (st := []) sh_20 cl_8 ev_Stand_load ql_Past_42 rfl (Nat.le_of_ble_eq_true rfl) (T_Stand_load_c25 (g := g) e (by omega) ((M3 24 2) * (49 : Int32)) M3) dd_Past_takeBack_45 (fun q4 hq4 => ?_)
    exact mj_vret dd_Past_takeBack_48 rfl rfl
def F_W_undo (M : mj_M) : Option (Int32 × mj_M) :=
    if (M 24 0) = (0) then
     (some ((-1 : Int32), M))
     else
     ((F_Past_takeBack_c20 M).bind (fun q2 =>
     some (q2 24 0, q2)))
set_option maxRecDepth 20000 in
theorem T_W_undo {g : mj_G} : ∀ d, 3 ≤ d → ∀ (M : mj_M), mj_Mt g (mj_qI g) d y_W_undo c_W_undo 1 (some .int) [.ref 0] M (F_W_undo M) := by
  intro d hd M
  obtain ⟨e, rfl⟩ : ∃ e, d = e + 1 := ⟨d - 1, by omega⟩
  have he : 2 ≤ e := by omega
  refine mj_met (by decide +kernel) (Nat.le_of_ble_eq_true rfl) ?_
  unfold F_W_undo
  refine mj_L (L' := [(0, .ref 0)]) [0] rfl ?_
  refine mj_aload_n (pc := 0) (i := 0) rfl dd_W_undo_0 ?_
  refine mj_getR (pc := 1) (b := 0) (k := 6) qf_W_56 sh_0 cl_11 rfl (by decide) (r := 24) rfl dd_W_undo_1 ?_
  refine mj_getI (pc := 4) (b := 24) (k := 0) qf_W_265 sh_24 cl_6 rfl (by decide) rfl dd_W_undo_4 ?_
  refine mj_if_ne (pc := 7) (tgt := 12) dd_W_undo_7 rfl (fun h1 => ?_) (fun h1 => ?_)
  · refine mj_iconst (pc := 10) (v := (-1 : Int32)) (by decide) dd_W_undo_10 ?_
    exact mj_iret dd_W_undo_11 rfl rfl
  · refine mj_aload_n (pc := 12) (i := 0) rfl dd_W_undo_12 ?_
    refine mj_getR (pc := 13) (b := 0) (k := 6) qf_W_56 sh_0 cl_11 rfl (by decide) (r := 24) rfl dd_W_undo_13 ?_
    refine mj_aload_n (pc := 16) (i := 0) rfl dd_W_undo_16 ?_
    refine mj_getR (pc := 17) (b := 0) (k := 5) qf_W_49 sh_0 cl_11 rfl (by decide) (r := 20) rfl dd_W_undo_17 ?_
    refine mj_callVV (pc := 20) (idx := 268) (b := 24) (As := [.ref 20]) (st := []) sh_24 cl_6 ev_Past_takeBack ql_W_268 rfl (Nat.le_of_ble_eq_true rfl) (T_Past_takeBack_c20 (g := g) e (by omega) M) dd_W_undo_20 (fun q2 hq2 => ?_)
    refine mj_aload_n (pc := 23) (i := 0) rfl dd_W_undo_23 ?_
    refine mj_getR (pc := 24) (b := 0) (k := 6) qf_W_56 sh_0 cl_11 rfl (by decide) (r := 24) rfl dd_W_undo_24 ?_
    refine mj_getI (pc := 27) (b := 24) (k := 0) qf_W_265 sh_24 cl_6 rfl (by decide) rfl dd_W_undo_27 ?_
    exact mj_iret dd_W_undo_30 rfl rfl
def F_M_undo_b21 (N : Nat) : Nat → Int32 → mj_M → Option (Int32 × mj_M)
  | 0, _, _ => none
  | n + 1, x1, M =>
    if (229 : Int32) ≤ x1 then
     (some (M 48 32, M))
     else
     (mj_ck (((229 : Int32) * (M 48 32)) + x1) 9160 (
     mj_ck x1 229 (mj_lt (mj_u M 65 x1.toNatClampNeg (M 67 (((229 : Int32) * (M 48 32)) + x1).toNatClampNeg)) (fun M4 =>
     F_M_undo_b21 N n (x1 + (1 : Int32)) M4))))
set_option maxRecDepth 20000 in
theorem T_M_undo_b21 {g : mj_G} (N : Nat) (e : Nat) (he : 0 ≤ e) : ∀ (n : Nat) (x1 : Int32) (M : mj_M), mj_X g (mj_qI g) "WinterTellersModel" c_M_undo 2 (some .int) e 21 [(0, .ref 48), (1, .int x1)] [] M (F_M_undo_b21 N n x1 M) := by
  intro n
  induction n with
  | zero => intro x1 M; exact mj_none
  | succ n ih =>
    intro x1 M
    rw [F_M_undo_b21]
    refine mj_iload_n (pc := 21) (i := 1) rfl dd_M_undo_21 ?_
    refine mj_sipush (pc := 22) (v := (229 : Int32)) (by decide) dd_M_undo_22 ?_
    refine mj_icmp_ge (pc := 25) (tgt := 55) dd_M_undo_25 rfl (fun h3 => ?_) (fun h3 => ?_)
    · refine mj_aload_n (pc := 55) (i := 0) rfl dd_M_undo_55 ?_
      refine mj_getI (pc := 56) (b := 48) (k := 32) qf_M_257 sh_48 cl_12 rfl (by decide) rfl dd_M_undo_56 ?_
      exact mj_iret dd_M_undo_59 rfl rfl
    · refine mj_aload_n (pc := 28) (i := 0) rfl dd_M_undo_28 ?_
      refine mj_getR (pc := 29) (b := 48) (k := 27) qf_M_58 sh_48 cl_12 rfl (by decide) (r := 65) rfl dd_M_undo_29 ?_
      refine mj_iload_n (pc := 32) (i := 1) rfl dd_M_undo_32 ?_
      refine mj_aload_n (pc := 33) (i := 0) rfl dd_M_undo_33 ?_
      refine mj_getR (pc := 34) (b := 48) (k := 31) qf_M_71 sh_48 cl_12 rfl (by decide) (r := 67) rfl dd_M_undo_34 ?_
      refine mj_sipush (pc := 37) (v := (229 : Int32)) (by decide) dd_M_undo_37 ?_
      refine mj_aload_n (pc := 40) (i := 0) rfl dd_M_undo_40 ?_
      refine mj_getI (pc := 41) (b := 48) (k := 32) qf_M_257 sh_48 cl_12 rfl (by decide) rfl dd_M_undo_41 ?_
      refine mj_imul (pc := 44) dd_M_undo_44 ?_
      refine mj_iload_n (pc := 45) (i := 1) rfl dd_M_undo_45 ?_
      refine mj_iadd (pc := 46) dd_M_undo_46 ?_
      refine mj_iald (pc := 47) sh_67 dd_M_undo_47 ?_
      refine mj_iast (pc := 48) sh_65 dd_M_undo_48 (fun M4 _ => ?_)
      refine mj_iinc (pc := 49) (i := 1) (z := (1 : Int32)) rfl (by decide) (by decide) dd_M_undo_49 ?_
      refine mj_L (L' := [(1, .int (x1 + (1 : Int32))), (0, .ref 48)]) [0, 1] rfl ?_
      refine mj_goto (pc := 52) (tgt := 21) dd_M_undo_52 rfl ?_
      refine mj_L (L' := [(0, .ref 48), (1, .int (x1 + (1 : Int32)))]) [1, 0] rfl ?_
      exact ih (x1 + (1 : Int32)) M4
def F_M_undo (N : Nat) (M : mj_M) : Option (Int32 × mj_M) :=
    if (M 48 32) = (0) then
     (some ((-1 : Int32), M))
     else
     (mj_lt (mj_u M 48 32 ((M 48 32) - (1 : Int32))) (fun M2 =>
     F_M_undo_b21 N N (0 : Int32) M2))
set_option maxRecDepth 20000 in
theorem T_M_undo {g : mj_G} (N : Nat) : ∀ d, 1 ≤ d → ∀ (M : mj_M), mj_Mt g (mj_qI g) d y_M_undo c_M_undo 2 (some .int) [.ref 48] M (F_M_undo N M) := by
  intro d hd M
  obtain ⟨e, rfl⟩ : ∃ e, d = e + 1 := ⟨d - 1, by omega⟩
  have he : 0 ≤ e := by omega
  refine mj_met (by decide +kernel) (Nat.le_of_ble_eq_true rfl) ?_
  unfold F_M_undo
  refine mj_L (L' := [(0, .ref 48)]) [0] rfl ?_
  refine mj_aload_n (pc := 0) (i := 0) rfl dd_M_undo_0 ?_
  refine mj_getI (pc := 1) (b := 48) (k := 32) qf_M_257 sh_48 cl_12 rfl (by decide) rfl dd_M_undo_1 ?_
  refine mj_if_ne (pc := 4) (tgt := 9) dd_M_undo_4 rfl (fun h1 => ?_) (fun h1 => ?_)
  · refine mj_iconst (pc := 7) (v := (-1 : Int32)) (by decide) dd_M_undo_7 ?_
    exact mj_iret dd_M_undo_8 rfl rfl
  · refine mj_aload_n (pc := 9) (i := 0) rfl dd_M_undo_9 ?_
    refine mj_dup (pc := 10) rfl dd_M_undo_10 ?_
    refine mj_getI (pc := 11) (b := 48) (k := 32) qf_M_257 sh_48 cl_12 rfl (by decide) rfl dd_M_undo_11 ?_
    refine mj_iconst (pc := 14) (v := (1 : Int32)) (by decide) dd_M_undo_14 ?_
    refine mj_isub (pc := 15) dd_M_undo_15 ?_
    refine mj_putI (pc := 16) (b := 48) (k := 32) qf_M_257 sh_48 cl_12 rfl (by decide) (by decide) rfl rfl rfl dd_M_undo_16 (fun M2 _ => ?_)
    refine mj_iconst (pc := 19) (v := (0 : Int32)) (by decide) dd_M_undo_19 ?_
    refine mj_istore_n (pc := 20) (by decide) dd_M_undo_20 ?_
    refine mj_L (L' := [(1, .int (0 : Int32)), (0, .ref 48)]) [0, 1] rfl ?_
    refine mj_L (L' := [(0, .ref 48), (1, .int (0 : Int32))]) [1, 0] rfl ?_
    exact T_M_undo_b21 (g := g) N e he N (0 : Int32) M2
def F_Stand_logSize (M : mj_M) : Option (Int32 × mj_M) :=
    some (mj_min (M 20 6) (60 : Int32), M)
set_option maxRecDepth 20000 in
theorem T_Stand_logSize {g : mj_G} : ∀ d, 1 ≤ d → ∀ (M : mj_M), mj_Mt g (mj_qI g) d y_Stand_logSize c_Stand_logSize 1 (some .int) [.ref 20] M (F_Stand_logSize M) := by
  intro d hd M
  obtain ⟨e, rfl⟩ : ∃ e, d = e + 1 := ⟨d - 1, by omega⟩
  have he : 0 ≤ e := by omega
  refine mj_met (by decide +kernel) (Nat.le_of_ble_eq_true rfl) ?_
  unfold F_Stand_logSize
  refine mj_L (L' := [(0, .ref 20)]) [0] rfl ?_
  refine mj_aload_n (pc := 0) (i := 0) rfl dd_Stand_logSize_0 ?_
  refine mj_getI (pc := 1) (b := 20) (k := 6) qf_Stand_51 sh_20 cl_8 rfl (by decide) rfl dd_Stand_logSize_1 ?_
  refine mj_bipush (pc := 4) (v := (60 : Int32)) (by decide) dd_Stand_logSize_4 ?_
  refine mj_mmin (pc := 6) (idx := 83) qm_Stand_83 (Nat.le_of_ble_eq_true rfl) dd_Stand_logSize_6 ?_
  exact mj_iret dd_Stand_logSize_9 rfl rfl
def F_Stand_telling (x1 : Int32) (M : mj_M) : Option (Int32 × mj_M) :=
    mj_lt (((M 20 6) - (1 : Int32)) - x1) (fun v1 =>
     if v1 < (0) then
     (some ((0 : Int32), M))
     else
     (mj_ck (v1 - v1 / (100 : Int32) * (100 : Int32)) 100 (
     some (M 23 (v1 - v1 / (100 : Int32) * (100 : Int32)).toNatClampNeg, M))))
set_option maxRecDepth 20000 in
theorem T_Stand_telling {g : mj_G} : ∀ d, 1 ≤ d → ∀ (x1 : Int32) (M : mj_M), mj_Mt g (mj_qI g) d y_Stand_telling c_Stand_telling 3 (some .int) [.ref 20, .int x1] M (F_Stand_telling x1 M) := by
  intro d hd x1 M
  obtain ⟨e, rfl⟩ : ∃ e, d = e + 1 := ⟨d - 1, by omega⟩
  have he : 0 ≤ e := by omega
  refine mj_met (by decide +kernel) (Nat.le_of_ble_eq_true rfl) ?_
  unfold F_Stand_telling
  refine mj_L (L' := [(0, .ref 20), (1, .int x1)]) [0, 1] rfl ?_
  refine mj_aload_n (pc := 0) (i := 0) rfl dd_Stand_telling_0 ?_
  refine mj_getI (pc := 1) (b := 20) (k := 6) qf_Stand_51 sh_20 cl_8 rfl (by decide) rfl dd_Stand_telling_1 ?_
  refine mj_iconst (pc := 4) (v := (1 : Int32)) (by decide) dd_Stand_telling_4 ?_
  refine mj_isub (pc := 5) dd_Stand_telling_5 ?_
  refine mj_iload_n (pc := 6) (i := 1) rfl dd_Stand_telling_6 ?_
  refine mj_isub (pc := 7) dd_Stand_telling_7 ?_
  refine mj_istore_nL (pc := 8) (by decide) dd_Stand_telling_8 (fun v1 _ => ?_)
  refine mj_L (L' := [(2, .int v1), (0, .ref 20)]) [0, 1] rfl ?_
  refine mj_iload_n (pc := 9) (i := 2) rfl dd_Stand_telling_9 ?_
  refine mj_if_lt (pc := 10) (tgt := 25) dd_Stand_telling_10 rfl (fun h2 => ?_) (fun h2 => ?_)
  · refine mj_iconst (pc := 25) (v := (0 : Int32)) (by decide) dd_Stand_telling_25 ?_
    exact mj_iret dd_Stand_telling_26 rfl rfl
  · refine mj_aload_n (pc := 13) (i := 0) rfl dd_Stand_telling_13 ?_
    refine mj_getR (pc := 14) (b := 20) (k := 9) qf_Stand_20 sh_20 cl_8 rfl (by decide) (r := 23) rfl dd_Stand_telling_14 ?_
    refine mj_iload_n (pc := 17) (i := 2) rfl dd_Stand_telling_17 ?_
    refine mj_bipush (pc := 18) (v := (100 : Int32)) (by decide) dd_Stand_telling_18 ?_
    refine mj_iremK (pc := 20) (by decide) dd_Stand_telling_20 ?_
    refine mj_iald (pc := 21) sh_23 dd_Stand_telling_21 ?_
    refine mj_goto (pc := 22) (tgt := 26) dd_Stand_telling_22 rfl ?_
    exact mj_iret dd_Stand_telling_26 rfl rfl
def F_W_log (x1 : Int32) (x2 : Int32) (M : mj_M) : Option (Int32 × mj_M) :=
    if x1 < (0) then
     (some ((-1 : Int32), M))
     else
     ((F_Stand_logSize M).bind (fun q2 =>
     if x1 < q2.1 then
     ((F_Stand_telling x1 q2.2).bind (fun q4 =>
     if x2 = (0 : Int32) then
     (some (q4.1 / (1000 : Int32), q4.2))
     else
     (if x2 = (1 : Int32) then
     (some ((q4.1 / (100 : Int32)) - (q4.1 / (100 : Int32)) / (10 : Int32) * (10 : Int32), q4.2))
     else
     (if x2 = (2 : Int32) then
     (some (q4.1 - q4.1 / (100 : Int32) * (100 : Int32), q4.2))
     else
     (some ((-1 : Int32), q4.2))))))
     else
     (some ((-1 : Int32), q2.2))))
set_option maxRecDepth 20000 in
theorem T_W_log {g : mj_G} : ∀ d, 2 ≤ d → ∀ (x1 : Int32) (x2 : Int32) (M : mj_M), mj_Mt g (mj_qI g) d y_W_log c_W_log 4 (some .int) [.ref 0, .int x1, .int x2] M (F_W_log x1 x2 M) := by
  intro d hd x1 x2 M
  obtain ⟨e, rfl⟩ : ∃ e, d = e + 1 := ⟨d - 1, by omega⟩
  have he : 1 ≤ e := by omega
  refine mj_met (by decide +kernel) (Nat.le_of_ble_eq_true rfl) ?_
  unfold F_W_log
  refine mj_L (L' := [(0, .ref 0), (1, .int x1), (2, .int x2)]) [0, 1, 2] rfl ?_
  refine mj_iload_n (pc := 0) (i := 1) rfl dd_W_log_0 ?_
  refine mj_if_lt (pc := 1) (tgt := 15) dd_W_log_1 rfl (fun h1 => ?_) (fun h1 => ?_)
  · refine mj_iconst (pc := 15) (v := (-1 : Int32)) (by decide) dd_W_log_15 ?_
    exact mj_iret dd_W_log_16 rfl rfl
  · refine mj_iload_n (pc := 4) (i := 1) rfl dd_W_log_4 ?_
    refine mj_aload_n (pc := 5) (i := 0) rfl dd_W_log_5 ?_
    refine mj_getR (pc := 6) (b := 0) (k := 5) qf_W_49 sh_0 cl_11 rfl (by decide) (r := 20) rfl dd_W_log_6 ?_
    refine mj_callVI (pc := 9) (idx := 271) (b := 20) (As := []) (st := [.int x1]) sh_20 cl_8 ev_Stand_logSize ql_W_271 rfl (Nat.le_of_ble_eq_true rfl) (T_Stand_logSize (g := g) e (by omega) M) dd_W_log_9 (fun q2 hq2 => ?_)
    refine mj_icmp_lt (pc := 12) (tgt := 17) dd_W_log_12 rfl (fun h3 => ?_) (fun h3 => ?_)
    · refine mj_aload_n (pc := 17) (i := 0) rfl dd_W_log_17 ?_
      refine mj_getR (pc := 18) (b := 0) (k := 5) qf_W_49 sh_0 cl_11 rfl (by decide) (r := 20) rfl dd_W_log_18 ?_
      refine mj_iload_n (pc := 21) (i := 1) rfl dd_W_log_21 ?_
      refine mj_callVI (pc := 22) (idx := 274) (b := 20) (As := [.int x1]) (st := []) sh_20 cl_8 ev_Stand_telling ql_W_274 rfl (Nat.le_of_ble_eq_true rfl) (T_Stand_telling (g := g) e (by omega) x1 q2.2) dd_W_log_22 (fun q4 hq4 => ?_)
      refine mj_istore_n (pc := 25) (by decide) dd_W_log_25 ?_
      refine mj_L (L' := [(3, .int q4.1), (2, .int x2)]) [0, 3] rfl ?_
      refine mj_iload_n (pc := 26) (i := 2) rfl dd_W_log_26 ?_
      refine mj_ife (fun h5 => ?_) (fun h5 => ?_)
      · refine mj_tswK (pc := 27) (tgt := 52) (k := (0 : Int32)) (off := 25) h5 dd_W_log_27 (by decide) (by decide) rfl rfl ?_
        refine mj_iload_n (pc := 52) (i := 3) rfl dd_W_log_52 ?_
        refine mj_sipush (pc := 53) (v := (1000 : Int32)) (by decide) dd_W_log_53 ?_
        refine mj_idivK (pc := 56) (by decide) dd_W_log_56 ?_
        exact mj_iret dd_W_log_57 rfl rfl
      · refine mj_ife (fun h6 => ?_) (fun h6 => ?_)
        · refine mj_tswK (pc := 27) (tgt := 58) (k := (1 : Int32)) (off := 31) h6 dd_W_log_27 (by decide) (by decide) rfl rfl ?_
          refine mj_iload_n (pc := 58) (i := 3) rfl dd_W_log_58 ?_
          refine mj_bipush (pc := 59) (v := (100 : Int32)) (by decide) dd_W_log_59 ?_
          refine mj_idivK (pc := 61) (by decide) dd_W_log_61 ?_
          refine mj_bipush (pc := 62) (v := (10 : Int32)) (by decide) dd_W_log_62 ?_
          refine mj_iremK (pc := 64) (by decide) dd_W_log_64 ?_
          exact mj_iret dd_W_log_65 rfl rfl
        · refine mj_ife (fun h7 => ?_) (fun h7 => ?_)
          · refine mj_tswK (pc := 27) (tgt := 66) (k := (2 : Int32)) (off := 39) h7 dd_W_log_27 (by decide) (by decide) rfl rfl ?_
            refine mj_iload_n (pc := 66) (i := 3) rfl dd_W_log_66 ?_
            refine mj_bipush (pc := 67) (v := (100 : Int32)) (by decide) dd_W_log_67 ?_
            refine mj_iremK (pc := 69) (by decide) dd_W_log_69 ?_
            exact mj_iret dd_W_log_70 rfl rfl
          · refine mj_tswD (pc := 27) (tgt := 71) [0, 1, 2] (mj_k1 (mj_ni (k := (0 : Int32)) (n := 0) (by decide) h5) (mj_k1 (mj_ni (k := (1 : Int32)) (n := 1) (by decide) h6) (mj_k1 (mj_ni (k := (2 : Int32)) (n := 2) (by decide) h7) mj_k0))) dd_W_log_27 (by decide) (by decide) rfl ?_
            refine mj_iconst (pc := 71) (v := (-1 : Int32)) (by decide) dd_W_log_71 ?_
            exact mj_iret dd_W_log_72 rfl rfl
    · refine mj_iconst (pc := 15) (v := (-1 : Int32)) (by decide) dd_W_log_15 ?_
      exact mj_iret dd_W_log_16 rfl rfl
def F_M_log (x1 : Int32) (x2 : Int32) (M : mj_M) : Option (Int32 × mj_M) :=
    (F_M_in x1 (0 : Int32) ((M 65 48) - (1 : Int32)) M).bind (fun q1 =>
     if q1.1 = (0) then
     (some ((-1 : Int32), q1.2))
     else
     ((F_M_in x2 (0 : Int32) (2 : Int32) q1.2).bind (fun q3 =>
     if q3.1 = (0) then
     (some ((-1 : Int32), q3.2))
     else
     (mj_ck (((49 : Int32) + ((3 : Int32) * (((q3.2 65 48) - (1 : Int32)) - x1))) + x2) 229 (
     some (q3.2 65 (((49 : Int32) + ((3 : Int32) * (((q3.2 65 48) - (1 : Int32)) - x1))) + x2).toNatClampNeg, q3.2))))))
set_option maxRecDepth 20000 in
theorem T_M_log {g : mj_G} : ∀ d, 2 ≤ d → ∀ (x1 : Int32) (x2 : Int32) (M : mj_M), mj_Mt g (mj_qI g) d y_M_log c_M_log 3 (some .int) [.ref 48, .int x1, .int x2] M (F_M_log x1 x2 M) := by
  intro d hd x1 x2 M
  obtain ⟨e, rfl⟩ : ∃ e, d = e + 1 := ⟨d - 1, by omega⟩
  have he : 1 ≤ e := by omega
  refine mj_met (by decide +kernel) (Nat.le_of_ble_eq_true rfl) ?_
  unfold F_M_log
  refine mj_L (L' := [(0, .ref 48), (1, .int x1), (2, .int x2)]) [0, 1, 2] rfl ?_
  refine mj_iload_n (pc := 0) (i := 1) rfl dd_M_log_0 ?_
  refine mj_iconst (pc := 1) (v := (0 : Int32)) (by decide) dd_M_log_1 ?_
  refine mj_aload_n (pc := 2) (i := 0) rfl dd_M_log_2 ?_
  refine mj_getR (pc := 3) (b := 48) (k := 27) qf_M_58 sh_48 cl_12 rfl (by decide) (r := 65) rfl dd_M_log_3 ?_
  refine mj_bipush (pc := 6) (v := (48 : Int32)) (by decide) dd_M_log_6 ?_
  refine mj_ialdK (pc := 8) (j := 48) sh_65 (by decide) rfl dd_M_log_8 ?_
  refine mj_iconst (pc := 9) (v := (1 : Int32)) (by decide) dd_M_log_9 ?_
  refine mj_isub (pc := 10) dd_M_log_10 ?_
  refine mj_callSI (pc := 11) (idx := 205) (As := [.int x1, .int (0 : Int32), .int ((M 65 48) - (1 : Int32))]) (st := []) es_M_in ql_M_205 rfl (Nat.le_of_ble_eq_true rfl) (T_M_in (g := g) e (by omega) x1 (0 : Int32) ((M 65 48) - (1 : Int32)) M) dd_M_log_11 (fun q1 hq1 => ?_)
  refine mj_if_eq (pc := 14) (tgt := 52) dd_M_log_14 rfl (fun h2 => ?_) (fun h2 => ?_)
  · refine mj_iconst (pc := 52) (v := (-1 : Int32)) (by decide) dd_M_log_52 ?_
    exact mj_iret dd_M_log_53 rfl rfl
  · refine mj_iload_n (pc := 17) (i := 2) rfl dd_M_log_17 ?_
    refine mj_iconst (pc := 18) (v := (0 : Int32)) (by decide) dd_M_log_18 ?_
    refine mj_iconst (pc := 19) (v := (2 : Int32)) (by decide) dd_M_log_19 ?_
    refine mj_callSI (pc := 20) (idx := 205) (As := [.int x2, .int (0 : Int32), .int (2 : Int32)]) (st := []) es_M_in ql_M_205 rfl (Nat.le_of_ble_eq_true rfl) (T_M_in (g := g) e (by omega) x2 (0 : Int32) (2 : Int32) q1.2) dd_M_log_20 (fun q3 hq3 => ?_)
    refine mj_if_eq (pc := 23) (tgt := 52) dd_M_log_23 rfl (fun h4 => ?_) (fun h4 => ?_)
    · refine mj_iconst (pc := 52) (v := (-1 : Int32)) (by decide) dd_M_log_52 ?_
      exact mj_iret dd_M_log_53 rfl rfl
    · refine mj_aload_n (pc := 26) (i := 0) rfl dd_M_log_26 ?_
      refine mj_getR (pc := 27) (b := 48) (k := 27) qf_M_58 sh_48 cl_12 rfl (by decide) (r := 65) rfl dd_M_log_27 ?_
      refine mj_bipush (pc := 30) (v := (49 : Int32)) (by decide) dd_M_log_30 ?_
      refine mj_iconst (pc := 32) (v := (3 : Int32)) (by decide) dd_M_log_32 ?_
      refine mj_aload_n (pc := 33) (i := 0) rfl dd_M_log_33 ?_
      refine mj_getR (pc := 34) (b := 48) (k := 27) qf_M_58 sh_48 cl_12 rfl (by decide) (r := 65) rfl dd_M_log_34 ?_
      refine mj_bipush (pc := 37) (v := (48 : Int32)) (by decide) dd_M_log_37 ?_
      refine mj_ialdK (pc := 39) (j := 48) sh_65 (by decide) rfl dd_M_log_39 ?_
      refine mj_iconst (pc := 40) (v := (1 : Int32)) (by decide) dd_M_log_40 ?_
      refine mj_isub (pc := 41) dd_M_log_41 ?_
      refine mj_iload_n (pc := 42) (i := 1) rfl dd_M_log_42 ?_
      refine mj_isub (pc := 43) dd_M_log_43 ?_
      refine mj_imul (pc := 44) dd_M_log_44 ?_
      refine mj_iadd (pc := 45) dd_M_log_45 ?_
      refine mj_iload_n (pc := 46) (i := 2) rfl dd_M_log_46 ?_
      refine mj_iadd (pc := 47) dd_M_log_47 ?_
      refine mj_iald (pc := 48) sh_65 dd_M_log_48 ?_
      refine mj_goto (pc := 49) (tgt := 53) dd_M_log_49 rfl ?_
      exact mj_iret dd_M_log_53 rfl rfl
def F_Plans_findBest_c22_b12 (N : Nat) : Nat → Int32 → Int32 → mj_M → Option (mj_M)
  | 0, _, _, _ => none
  | n + 1, x1, x3, M =>
    if (M 13 1) ≤ x3 then
     (some M)
     else
     ((F_Stand_owns x3 M).bind (fun q4 =>
     if q4.1 = (0) then
     (F_Plans_findBest_c22_b12 N n x1 (x3 + (1 : Int32)) q4.2)
     else
     (mj_ck ((x1 * (6 : Int32)) + x3) 36 (
     mj_ck x3 6 (
     (F_Stays_by N x1 x3 (q4.2 22 ((x1 * (6 : Int32)) + x3).toNatClampNeg) (q4.2 21 x3.toNatClampNeg) q4.2).bind (fun q6 =>
     if q6.1 ≤ (q6.2 33 1) then
     (F_Plans_findBest_c22_b12 N n x1 (x3 + (1 : Int32)) q6.2)
     else
     (mj_lt (mj_u q6.2 33 1 q6.1) (fun M8 =>
     mj_lt (mj_u M8 33 0 x3) (fun M9 =>
     F_Plans_findBest_c22_b12 N n x1 (x3 + (1 : Int32)) M9)))))))))
set_option maxRecDepth 20000 in
theorem T_Plans_findBest_c22_b12 {g : mj_G} (N : Nat) (e : Nat) (he : 4 ≤ e) : ∀ (n : Nat) (x1 : Int32) (x3 : Int32) (M : mj_M), mj_X g (mj_qV g) "WinterTellers$Plans" c_Plans_findBest 5 none e 12 [(0, .ref 33), (1, .int x1), (2, .ref 22), (3, .int x3)] [] M (F_Plans_findBest_c22_b12 N n x1 x3 M) := by
  intro n
  induction n with
  | zero => intro x1 x3 M; exact mj_none
  | succ n ih =>
    intro x1 x3 M
    rw [F_Plans_findBest_c22_b12]
    refine mj_iload_n (pc := 12) (i := 3) rfl dd_Plans_findBest_12 ?_
    refine mj_aload_n (pc := 13) (i := 0) rfl dd_Plans_findBest_13 ?_
    refine mj_getR (pc := 14) (b := 33) (k := 7) qf_Plans_24 sh_33 cl_7 rfl (by decide) (r := 13) rfl dd_Plans_findBest_14 ?_
    refine mj_getI (pc := 17) (b := 13) (k := 1) qf_Plans_43 sh_13 cl_0 rfl (by decide) rfl dd_Plans_findBest_17 ?_
    refine mj_icmp_ge (pc := 20) (tgt := 88) dd_Plans_findBest_20 rfl (fun h3 => ?_) (fun h3 => ?_)
    · exact mj_vret dd_Plans_findBest_88 rfl rfl
    · refine mj_aload_n (pc := 23) (i := 0) rfl dd_Plans_findBest_23 ?_
      refine mj_getR (pc := 24) (b := 33) (k := 8) qf_Plans_28 sh_33 cl_7 rfl (by decide) (r := 20) rfl dd_Plans_findBest_24 ?_
      refine mj_iload_n (pc := 27) (i := 3) rfl dd_Plans_findBest_27 ?_
      refine mj_callVI (pc := 28) (idx := 48) (b := 20) (As := [.int x3]) (st := []) sh_20 cl_8 ev_Stand_owns ql_Plans_48 rfl (Nat.le_of_ble_eq_true rfl) (T_Stand_owns (g := g) e (by omega) x3 M) dd_Plans_findBest_28 (fun q4 hq4 => ?_)
      refine mj_if_eq (pc := 31) (tgt := 82) dd_Plans_findBest_31 rfl (fun h5 => ?_) (fun h5 => ?_)
      · refine mj_iinc (pc := 82) (i := 3) (z := (1 : Int32)) rfl (by decide) (by decide) dd_Plans_findBest_82 ?_
        refine mj_L (L' := [(3, .int (x3 + (1 : Int32))), (0, .ref 33), (1, .int x1), (2, .ref 22)]) [0, 1, 2, 3] rfl ?_
        refine mj_goto (pc := 85) (tgt := 12) dd_Plans_findBest_85 rfl ?_
        refine mj_L (L' := [(0, .ref 33), (1, .int x1), (2, .ref 22), (3, .int (x3 + (1 : Int32)))]) [1, 2, 3, 0] rfl ?_
        exact ih x1 (x3 + (1 : Int32)) q4.2
      · refine mj_aload_n (pc := 34) (i := 0) rfl dd_Plans_findBest_34 ?_
        refine mj_getR (pc := 35) (b := 33) (k := 9) qf_Plans_32 sh_33 cl_7 rfl (by decide) (r := 28) rfl dd_Plans_findBest_35 ?_
        refine mj_iload_n (pc := 38) (i := 1) rfl dd_Plans_findBest_38 ?_
        refine mj_iload_n (pc := 39) (i := 3) rfl dd_Plans_findBest_39 ?_
        refine mj_aload_n (pc := 40) (i := 2) rfl dd_Plans_findBest_40 ?_
        refine mj_iload_n (pc := 41) (i := 1) rfl dd_Plans_findBest_41 ?_
        refine mj_bipush (pc := 42) (v := (6 : Int32)) (by decide) dd_Plans_findBest_42 ?_
        refine mj_imul (pc := 44) dd_Plans_findBest_44 ?_
        refine mj_iload_n (pc := 45) (i := 3) rfl dd_Plans_findBest_45 ?_
        refine mj_iadd (pc := 46) dd_Plans_findBest_46 ?_
        refine mj_iald (pc := 47) sh_22 dd_Plans_findBest_47 ?_
        refine mj_aload_n (pc := 48) (i := 0) rfl dd_Plans_findBest_48 ?_
        refine mj_getR (pc := 49) (b := 33) (k := 8) qf_Plans_28 sh_33 cl_7 rfl (by decide) (r := 20) rfl dd_Plans_findBest_49 ?_
        refine mj_getR (pc := 52) (b := 20) (k := 7) qf_Plans_54 sh_20 cl_8 rfl (by decide) (r := 21) rfl dd_Plans_findBest_52 ?_
        refine mj_iload_n (pc := 55) (i := 3) rfl dd_Plans_findBest_55 ?_
        refine mj_iald (pc := 56) sh_21 dd_Plans_findBest_56 ?_
        refine mj_callVI (pc := 57) (idx := 57) (b := 28) (As := [.int x1, .int x3, .int (q4.2 22 ((x1 * (6 : Int32)) + x3).toNatClampNeg), .int (q4.2 21 x3.toNatClampNeg)]) (st := []) sh_28 cl_9 ev_Stays_by ql_Plans_57 rfl (Nat.le_of_ble_eq_true rfl) (T_Stays_by (g := g) N e (by omega) x1 x3 (q4.2 22 ((x1 * (6 : Int32)) + x3).toNatClampNeg) (q4.2 21 x3.toNatClampNeg) q4.2) dd_Plans_findBest_57 (fun q6 hq6 => ?_)
        refine mj_istore (pc := 60) (by decide) dd_Plans_findBest_60 ?_
        refine mj_L (L' := [(4, .int q6.1), (0, .ref 33), (1, .int x1), (2, .ref 22), (3, .int x3)]) [0, 1, 2, 3, 4] rfl ?_
        refine mj_iload (pc := 62) (i := 4) rfl dd_Plans_findBest_62 ?_
        refine mj_aload_n (pc := 64) (i := 0) rfl dd_Plans_findBest_64 ?_
        refine mj_getI (pc := 65) (b := 33) (k := 1) qf_Plans_40 sh_33 cl_7 rfl (by decide) rfl dd_Plans_findBest_65 ?_
        refine mj_icmp_le (pc := 68) (tgt := 82) dd_Plans_findBest_68 rfl (fun h7 => ?_) (fun h7 => ?_)
        · refine mj_iinc (pc := 82) (i := 3) (z := (1 : Int32)) rfl (by decide) (by decide) dd_Plans_findBest_82 ?_
          refine mj_L (L' := [(3, .int (x3 + (1 : Int32))), (0, .ref 33), (1, .int x1), (2, .ref 22)]) [0, 2, 3, 4] rfl ?_
          refine mj_goto (pc := 85) (tgt := 12) dd_Plans_findBest_85 rfl ?_
          refine mj_L (L' := [(0, .ref 33), (1, .int x1), (2, .ref 22), (3, .int (x3 + (1 : Int32)))]) [1, 2, 3, 0] rfl ?_
          exact ih x1 (x3 + (1 : Int32)) q6.2
        · refine mj_aload_n (pc := 71) (i := 0) rfl dd_Plans_findBest_71 ?_
          refine mj_iload (pc := 72) (i := 4) rfl dd_Plans_findBest_72 ?_
          refine mj_putI (pc := 74) (b := 33) (k := 1) qf_Plans_40 sh_33 cl_7 rfl (by decide) (by decide) rfl rfl rfl dd_Plans_findBest_74 (fun M8 _ => ?_)
          refine mj_aload_n (pc := 77) (i := 0) rfl dd_Plans_findBest_77 ?_
          refine mj_iload_n (pc := 78) (i := 3) rfl dd_Plans_findBest_78 ?_
          refine mj_putI (pc := 79) (b := 33) (k := 0) qf_Plans_36 sh_33 cl_7 rfl (by decide) (by decide) rfl rfl rfl dd_Plans_findBest_79 (fun M9 _ => ?_)
          refine mj_iinc (pc := 82) (i := 3) (z := (1 : Int32)) rfl (by decide) (by decide) dd_Plans_findBest_82 ?_
          refine mj_L (L' := [(3, .int (x3 + (1 : Int32))), (0, .ref 33), (1, .int x1), (2, .ref 22)]) [0, 2, 3, 4] rfl ?_
          refine mj_goto (pc := 85) (tgt := 12) dd_Plans_findBest_85 rfl ?_
          refine mj_L (L' := [(0, .ref 33), (1, .int x1), (2, .ref 22), (3, .int (x3 + (1 : Int32)))]) [1, 2, 3, 0] rfl ?_
          exact ih x1 (x3 + (1 : Int32)) M9
def F_Plans_findBest_c22 (N : Nat) (x1 : Int32) (M : mj_M) : Option (mj_M) :=
    mj_lt (mj_u M 33 0 (-1 : Int32)) (fun M1 =>
     mj_lt (mj_u M1 33 1 (-1 : Int32)) (fun M2 =>
     F_Plans_findBest_c22_b12 N N x1 (0 : Int32) M2))
set_option maxRecDepth 20000 in
theorem T_Plans_findBest_c22 {g : mj_G} (N : Nat) : ∀ d, 5 ≤ d → ∀ (x1 : Int32) (M : mj_M), mj_Mt g (mj_qV g) d y_Plans_findBest c_Plans_findBest 5 none [.ref 33, .int x1, .ref 22] M (F_Plans_findBest_c22 N x1 M) := by
  intro d hd x1 M
  obtain ⟨e, rfl⟩ : ∃ e, d = e + 1 := ⟨d - 1, by omega⟩
  have he : 4 ≤ e := by omega
  refine mj_met (by decide +kernel) (Nat.le_of_ble_eq_true rfl) ?_
  unfold F_Plans_findBest_c22
  refine mj_L (L' := [(0, .ref 33), (1, .int x1), (2, .ref 22)]) [0, 1, 2] rfl ?_
  refine mj_aload_n (pc := 0) (i := 0) rfl dd_Plans_findBest_0 ?_
  refine mj_iconst (pc := 1) (v := (-1 : Int32)) (by decide) dd_Plans_findBest_1 ?_
  refine mj_putI (pc := 2) (b := 33) (k := 0) qf_Plans_36 sh_33 cl_7 rfl (by decide) (by decide) rfl rfl rfl dd_Plans_findBest_2 (fun M1 _ => ?_)
  refine mj_aload_n (pc := 5) (i := 0) rfl dd_Plans_findBest_5 ?_
  refine mj_iconst (pc := 6) (v := (-1 : Int32)) (by decide) dd_Plans_findBest_6 ?_
  refine mj_putI (pc := 7) (b := 33) (k := 1) qf_Plans_40 sh_33 cl_7 rfl (by decide) (by decide) rfl rfl rfl dd_Plans_findBest_7 (fun M2 _ => ?_)
  refine mj_iconst (pc := 10) (v := (0 : Int32)) (by decide) dd_Plans_findBest_10 ?_
  refine mj_istore_n (pc := 11) (by decide) dd_Plans_findBest_11 ?_
  refine mj_L (L' := [(3, .int (0 : Int32)), (0, .ref 33), (1, .int x1), (2, .ref 22)]) [0, 1, 2, 3] rfl ?_
  refine mj_L (L' := [(0, .ref 33), (1, .int x1), (2, .ref 22), (3, .int (0 : Int32))]) [1, 2, 3, 0] rfl ?_
  exact T_Plans_findBest_c22_b12 (g := g) N e he N x1 (0 : Int32) M2
def F_W_best (N : Nat) (x1 : Int32) (x2 : Int32) (M : mj_M) : Option (Int32 × mj_M) :=
    (F_Coast_hasHouse x1 M).bind (fun q1 =>
     if q1.1 = (0) then
     (some ((-1 : Int32), q1.2))
     else
     (if x2 < (0) then
     (some ((-1 : Int32), q1.2))
     else
     (if x2 ≤ (1 : Int32) then
     ((F_Plans_findBest_c22 N x1 q1.2).bind (fun q5 =>
     if x2 = (0) then
     (some (q5 33 0, q5))
     else
     (some (q5 33 1, q5))))
     else
     (some ((-1 : Int32), q1.2)))))
set_option maxRecDepth 20000 in
theorem T_W_best {g : mj_G} (N : Nat) : ∀ d, 6 ≤ d → ∀ (x1 : Int32) (x2 : Int32) (M : mj_M), mj_Mt g (mj_qI g) d y_W_best c_W_best 3 (some .int) [.ref 0, .int x1, .int x2] M (F_W_best N x1 x2 M) := by
  intro d hd x1 x2 M
  obtain ⟨e, rfl⟩ : ∃ e, d = e + 1 := ⟨d - 1, by omega⟩
  have he : 5 ≤ e := by omega
  refine mj_met (by decide +kernel) (Nat.le_of_ble_eq_true rfl) ?_
  unfold F_W_best
  refine mj_L (L' := [(0, .ref 0), (1, .int x1), (2, .int x2)]) [0, 1, 2] rfl ?_
  refine mj_aload_n (pc := 0) (i := 0) rfl dd_W_best_0 ?_
  refine mj_getR (pc := 1) (b := 0) (k := 4) qf_W_42 sh_0 cl_11 rfl (by decide) (r := 13) rfl dd_W_best_1 ?_
  refine mj_iload_n (pc := 4) (i := 1) rfl dd_W_best_4 ?_
  refine mj_callVI (pc := 5) (idx := 150) (b := 13) (As := [.int x1]) (st := []) sh_13 cl_0 ev_Coast_hasHouse ql_W_150 rfl (Nat.le_of_ble_eq_true rfl) (T_Coast_hasHouse (g := g) e (by omega) x1 M) dd_W_best_5 (fun q1 hq1 => ?_)
  refine mj_if_eq (pc := 8) (tgt := 20) dd_W_best_8 rfl (fun h2 => ?_) (fun h2 => ?_)
  · refine mj_iconst (pc := 20) (v := (-1 : Int32)) (by decide) dd_W_best_20 ?_
    exact mj_iret dd_W_best_21 rfl rfl
  · refine mj_iload_n (pc := 11) (i := 2) rfl dd_W_best_11 ?_
    refine mj_if_lt (pc := 12) (tgt := 20) dd_W_best_12 rfl (fun h3 => ?_) (fun h3 => ?_)
    · refine mj_iconst (pc := 20) (v := (-1 : Int32)) (by decide) dd_W_best_20 ?_
      exact mj_iret dd_W_best_21 rfl rfl
    · refine mj_iload_n (pc := 15) (i := 2) rfl dd_W_best_15 ?_
      refine mj_iconst (pc := 16) (v := (1 : Int32)) (by decide) dd_W_best_16 ?_
      refine mj_icmp_le (pc := 17) (tgt := 22) dd_W_best_17 rfl (fun h4 => ?_) (fun h4 => ?_)
      · refine mj_aload_n (pc := 22) (i := 0) rfl dd_W_best_22 ?_
        refine mj_getR (pc := 23) (b := 0) (k := 9) qf_W_83 sh_0 cl_11 rfl (by decide) (r := 33) rfl dd_W_best_23 ?_
        refine mj_iload_n (pc := 26) (i := 1) rfl dd_W_best_26 ?_
        refine mj_aload_n (pc := 27) (i := 0) rfl dd_W_best_27 ?_
        refine mj_getR (pc := 28) (b := 0) (k := 5) qf_W_49 sh_0 cl_11 rfl (by decide) (r := 20) rfl dd_W_best_28 ?_
        refine mj_getR (pc := 31) (b := 20) (k := 8) qf_W_185 sh_20 cl_8 rfl (by decide) (r := 22) rfl dd_W_best_31 ?_
        refine mj_callVV (pc := 34) (idx := 277) (b := 33) (As := [.int x1, .ref 22]) (st := []) sh_33 cl_7 ev_Plans_findBest ql_W_277 rfl (Nat.le_of_ble_eq_true rfl) (T_Plans_findBest_c22 (g := g) N e (by omega) x1 q1.2) dd_W_best_34 (fun q5 hq5 => ?_)
        refine mj_iload_n (pc := 37) (i := 2) rfl dd_W_best_37 ?_
        refine mj_if_ne (pc := 38) (tgt := 51) dd_W_best_38 rfl (fun h6 => ?_) (fun h6 => ?_)
        · refine mj_aload_n (pc := 41) (i := 0) rfl dd_W_best_41 ?_
          refine mj_getR (pc := 42) (b := 0) (k := 9) qf_W_83 sh_0 cl_11 rfl (by decide) (r := 33) rfl dd_W_best_42 ?_
          refine mj_getI (pc := 45) (b := 33) (k := 0) qf_W_281 sh_33 cl_7 rfl (by decide) rfl dd_W_best_45 ?_
          refine mj_goto (pc := 48) (tgt := 58) dd_W_best_48 rfl ?_
          exact mj_iret dd_W_best_58 rfl rfl
        · refine mj_aload_n (pc := 51) (i := 0) rfl dd_W_best_51 ?_
          refine mj_getR (pc := 52) (b := 0) (k := 9) qf_W_83 sh_0 cl_11 rfl (by decide) (r := 33) rfl dd_W_best_52 ?_
          refine mj_getI (pc := 55) (b := 33) (k := 1) qf_W_284 sh_33 cl_7 rfl (by decide) rfl dd_W_best_55 ?_
          exact mj_iret dd_W_best_58 rfl rfl
      · refine mj_iconst (pc := 20) (v := (-1 : Int32)) (by decide) dd_W_best_20 ?_
        exact mj_iret dd_W_best_21 rfl rfl
