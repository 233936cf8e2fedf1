/-! ===== functions and their proofs ===== -/
def F_M_nightsNow (N : Nat) (x1 : Int32) (x2 : Int32) (M : mj_M) : Option (Int32 × mj_M) :=
    mj_ck ((36 : Int32) + x2) 229 (
     (F_M_heardOf x1 x2 M).bind (fun q1 =>
     (F_M_nightsBy N x1 x2 (M 65 ((36 : Int32) + x2).toNatClampNeg) q1.1 q1.2).bind (fun q2 =>
     some (q2.1, q2.2))))
set_option maxRecDepth 20000 in
theorem T_M_nightsNow {g : mj_G} (N : Nat) : ∀ d, 6 ≤ d → ∀ (x1 : Int32) (x2 : Int32) (M : mj_M), mj_Mt g (mj_qI g) d y_M_nightsNow c_M_nightsNow 3 (some .int) [.ref 48, .int x1, .int x2] M (F_M_nightsNow N x1 x2 M) := by
  intro d hd x1 x2 M
  obtain ⟨e, rfl⟩ : ∃ e, d = e + 1 := ⟨d - 1, by omega⟩
  have he : 5 ≤ e := by omega
  refine mj_met (by decide +kernel) (Nat.le_of_ble_eq_true rfl) ?_
  unfold F_M_nightsNow
  refine mj_L (L' := [(0, .ref 48), (1, .int x1), (2, .int x2)]) [0, 1, 2] rfl ?_
  refine mj_aload_n (pc := 0) (i := 0) rfl dd_M_nightsNow_0 ?_
  refine mj_iload_n (pc := 1) (i := 1) rfl dd_M_nightsNow_1 ?_
  refine mj_iload_n (pc := 2) (i := 2) rfl dd_M_nightsNow_2 ?_
  refine mj_aload_n (pc := 3) (i := 0) rfl dd_M_nightsNow_3 ?_
  refine mj_getR (pc := 4) (b := 48) (k := 27) qf_M_58 sh_48 cl_12 rfl (by decide) (r := 65) rfl dd_M_nightsNow_4 ?_
  refine mj_bipush (pc := 7) (v := (36 : Int32)) (by decide) dd_M_nightsNow_7 ?_
  refine mj_iload_n (pc := 9) (i := 2) rfl dd_M_nightsNow_9 ?_
  refine mj_iadd (pc := 10) dd_M_nightsNow_10 ?_
  refine mj_iald (pc := 11) sh_65 dd_M_nightsNow_11 ?_
  refine mj_aload_n (pc := 12) (i := 0) rfl dd_M_nightsNow_12 ?_
  refine mj_iload_n (pc := 13) (i := 1) rfl dd_M_nightsNow_13 ?_
  refine mj_iload_n (pc := 14) (i := 2) rfl dd_M_nightsNow_14 ?_
  refine mj_callVI (pc := 15) (idx := 277) (b := 48) (As := [.int x1, .int x2]) (st := [.int (M 65 ((36 : Int32) + x2).toNatClampNeg), .int x2, .int x1, .ref 48]) sh_48 cl_12 ev_M_heardOf ql_M_277 rfl (Nat.le_of_ble_eq_true rfl) (T_M_heardOf (g := g) e (by omega) x1 x2 M) dd_M_nightsNow_15 (fun q1 hq1 => ?_)
  refine mj_callVI (pc := 18) (idx := 280) (b := 48) (As := [.int x1, .int x2, .int (M 65 ((36 : Int32) + x2).toNatClampNeg), .int q1.1]) (st := []) sh_48 cl_12 ev_M_nightsBy ql_M_280 rfl (Nat.le_of_ble_eq_true rfl) (T_M_nightsBy (g := g) N e (by omega) x1 x2 (M 65 ((36 : Int32) + x2).toNatClampNeg) q1.1 q1.2) dd_M_nightsNow_18 (fun q2 hq2 => ?_)
  exact mj_iret dd_M_nightsNow_21 rfl rfl
def F_M_nights (N : Nat) (x1 : Int32) (x2 : Int32) (M : mj_M) : Option (Int32 × mj_M) :=
    (F_M_isHouse x1 M).bind (fun q1 =>
     if q1.1 = (0) then
     (some ((-1 : Int32), q1.2))
     else
     ((F_M_isTale x2 q1.2).bind (fun q3 =>
     if q3.1 = (0) then
     (some ((-1 : Int32), q3.2))
     else
     ((F_M_nightsNow N x1 x2 q3.2).bind (fun q5 =>
     some (q5.1, q5.2))))))
set_option maxRecDepth 20000 in
theorem T_M_nights {g : mj_G} (N : Nat) : ∀ d, 7 ≤ d → ∀ (x1 : Int32) (x2 : Int32) (M : mj_M), mj_Mt g (mj_qI g) d y_M_nights c_M_nights 3 (some .int) [.ref 48, .int x1, .int x2] M (F_M_nights N x1 x2 M) := by
  intro d hd x1 x2 M
  obtain ⟨e, rfl⟩ : ∃ e, d = e + 1 := ⟨d - 1, by omega⟩
  have he : 6 ≤ e := by omega
  refine mj_met (by decide +kernel) (Nat.le_of_ble_eq_true rfl) ?_
  unfold F_M_nights
  refine mj_L (L' := [(0, .ref 48), (1, .int x1), (2, .int x2)]) [0, 1, 2] rfl ?_
  refine mj_aload_n (pc := 0) (i := 0) rfl dd_M_nights_0 ?_
  refine mj_iload_n (pc := 1) (i := 1) rfl dd_M_nights_1 ?_
  refine mj_callVI (pc := 2) (idx := 300) (b := 48) (As := [.int x1]) (st := []) sh_48 cl_12 ev_M_isHouse ql_M_300 rfl (Nat.le_of_ble_eq_true rfl) (T_M_isHouse (g := g) e (by omega) x1 M) dd_M_nights_2 (fun q1 hq1 => ?_)
  refine mj_if_eq (pc := 5) (tgt := 25) dd_M_nights_5 rfl (fun h2 => ?_) (fun h2 => ?_)
  · refine mj_iconst (pc := 25) (v := (-1 : Int32)) (by decide) dd_M_nights_25 ?_
    exact mj_iret dd_M_nights_26 rfl rfl
  · refine mj_aload_n (pc := 8) (i := 0) rfl dd_M_nights_8 ?_
    refine mj_iload_n (pc := 9) (i := 2) rfl dd_M_nights_9 ?_
    refine mj_callVI (pc := 10) (idx := 306) (b := 48) (As := [.int x2]) (st := []) sh_48 cl_12 ev_M_isTale ql_M_306 rfl (Nat.le_of_ble_eq_true rfl) (T_M_isTale (g := g) e (by omega) x2 q1.2) dd_M_nights_10 (fun q3 hq3 => ?_)
    refine mj_if_eq (pc := 13) (tgt := 25) dd_M_nights_13 rfl (fun h4 => ?_) (fun h4 => ?_)
    · refine mj_iconst (pc := 25) (v := (-1 : Int32)) (by decide) dd_M_nights_25 ?_
      exact mj_iret dd_M_nights_26 rfl rfl
    · refine mj_aload_n (pc := 16) (i := 0) rfl dd_M_nights_16 ?_
      refine mj_iload_n (pc := 17) (i := 1) rfl dd_M_nights_17 ?_
      refine mj_iload_n (pc := 18) (i := 2) rfl dd_M_nights_18 ?_
      refine mj_callVI (pc := 19) (idx := 284) (b := 48) (As := [.int x1, .int x2]) (st := []) sh_48 cl_12 ev_M_nightsNow ql_M_284 rfl (Nat.le_of_ble_eq_true rfl) (T_M_nightsNow (g := g) N e (by omega) x1 x2 q3.2) dd_M_nights_19 (fun q5 hq5 => ?_)
      refine mj_goto (pc := 22) (tgt := 26) dd_M_nights_22 rfl ?_
      exact mj_iret dd_M_nights_26 rfl rfl
def F_W_law (x1 : Int32) (M : mj_M) : Option (Int32 × mj_M) :=
    if x1 < (-1 : Int32) then
     (some ((0 : Int32), M))
     else
     (if x1 < (M 8 0) then
     (mj_lt (mj_u M 8 1 x1) (fun M3 =>
     some ((1 : Int32), M3)))
     else
     (some ((0 : Int32), M)))
set_option maxRecDepth 20000 in
theorem T_W_law {g : mj_G} : ∀ d, 1 ≤ d → ∀ (x1 : Int32) (M : mj_M), mj_Mt g (mj_qI g) d y_W_law c_W_law 2 (some .boolean) [.ref 0, .int x1] M (F_W_law x1 M) := by
  intro d hd x1 M
  obtain ⟨e, rfl⟩ : ∃ e, d = e + 1 := ⟨d - 1, by omega⟩
  have he : 0 ≤ e := by omega
  refine mj_met (by decide +kernel) (Nat.le_of_ble_eq_true rfl) ?_
  unfold F_W_law
  refine mj_L (L' := [(0, .ref 0), (1, .int x1)]) [0, 1] rfl ?_
  refine mj_iload_n (pc := 0) (i := 1) rfl dd_W_law_0 ?_
  refine mj_iconst (pc := 1) (v := (-1 : Int32)) (by decide) dd_W_law_1 ?_
  refine mj_icmp_lt (pc := 2) (tgt := 16) dd_W_law_2 rfl (fun h1 => ?_) (fun h1 => ?_)
  · refine mj_iconst (pc := 16) (v := (0 : Int32)) (by decide) dd_W_law_16 ?_
    exact mj_zret (by decide) dd_W_law_17 rfl rfl
  · refine mj_iload_n (pc := 5) (i := 1) rfl dd_W_law_5 ?_
    refine mj_aload_n (pc := 6) (i := 0) rfl dd_W_law_6 ?_
    refine mj_getR (pc := 7) (b := 0) (k := 3) qf_W_35 sh_0 cl_11 rfl (by decide) (r := 8) rfl dd_W_law_7 ?_
    refine mj_getI (pc := 10) (b := 8) (k := 0) qf_W_124 sh_8 cl_5 rfl (by decide) rfl dd_W_law_10 ?_
    refine mj_icmp_lt (pc := 13) (tgt := 18) dd_W_law_13 rfl (fun h2 => ?_) (fun h2 => ?_)
    · refine mj_aload_n (pc := 18) (i := 0) rfl dd_W_law_18 ?_
      refine mj_getR (pc := 19) (b := 0) (k := 3) qf_W_35 sh_0 cl_11 rfl (by decide) (r := 8) rfl dd_W_law_19 ?_
      refine mj_iload_n (pc := 22) (i := 1) rfl dd_W_law_22 ?_
      refine mj_putI (pc := 23) (b := 8) (k := 1) qf_W_192 sh_8 cl_5 rfl (by decide) (by decide) rfl rfl rfl dd_W_law_23 (fun M3 _ => ?_)
      refine mj_iconst (pc := 26) (v := (1 : Int32)) (by decide) dd_W_law_26 ?_
      exact mj_zret (by decide) dd_W_law_27 rfl rfl
    · refine mj_iconst (pc := 16) (v := (0 : Int32)) (by decide) dd_W_law_16 ?_
      exact mj_zret (by decide) dd_W_law_17 rfl rfl
def F_M_law (x1 : Int32) (M : mj_M) : Option (Int32 × mj_M) :=
    (F_M_in x1 (-1 : Int32) ((M 48 13) - (1 : Int32)) M).bind (fun q1 =>
     if q1.1 = (0) then
     (some ((0 : Int32), q1.2))
     else
     (mj_lt (mj_u q1.2 48 29 x1) (fun M3 =>
     some ((1 : Int32), M3))))
set_option maxRecDepth 20000 in
theorem T_M_law {g : mj_G} : ∀ d, 2 ≤ d → ∀ (x1 : Int32) (M : mj_M), mj_Mt g (mj_qI g) d y_M_law c_M_law 2 (some .boolean) [.ref 48, .int x1] M (F_M_law x1 M) := by
  intro d hd x1 M
  obtain ⟨e, rfl⟩ : ∃ e, d = e + 1 := ⟨d - 1, by omega⟩
  have he : 1 ≤ e := by omega
  refine mj_met (by decide +kernel) (Nat.le_of_ble_eq_true rfl) ?_
  unfold F_M_law
  refine mj_L (L' := [(0, .ref 48), (1, .int x1)]) [0, 1] rfl ?_
  refine mj_iload_n (pc := 0) (i := 1) rfl dd_M_law_0 ?_
  refine mj_iconst (pc := 1) (v := (-1 : Int32)) (by decide) dd_M_law_1 ?_
  refine mj_aload_n (pc := 2) (i := 0) rfl dd_M_law_2 ?_
  refine mj_getI (pc := 3) (b := 48) (k := 13) qf_M_267 sh_48 cl_12 rfl (by decide) rfl dd_M_law_3 ?_
  refine mj_iconst (pc := 6) (v := (1 : Int32)) (by decide) dd_M_law_6 ?_
  refine mj_isub (pc := 7) dd_M_law_7 ?_
  refine mj_callSI (pc := 8) (idx := 205) (As := [.int x1, .int (-1 : Int32), .int ((M 48 13) - (1 : Int32))]) (st := []) es_M_in ql_M_205 rfl (Nat.le_of_ble_eq_true rfl) (T_M_in (g := g) e (by omega) x1 (-1 : Int32) ((M 48 13) - (1 : Int32)) M) dd_M_law_8 (fun q1 hq1 => ?_)
  refine mj_if_ne (pc := 11) (tgt := 16) dd_M_law_11 rfl (fun h2 => ?_) (fun h2 => ?_)
  · refine mj_iconst (pc := 14) (v := (0 : Int32)) (by decide) dd_M_law_14 ?_
    exact mj_zret (by decide) dd_M_law_15 rfl rfl
  · refine mj_aload_n (pc := 16) (i := 0) rfl dd_M_law_16 ?_
    refine mj_iload_n (pc := 17) (i := 1) rfl dd_M_law_17 ?_
    refine mj_putI (pc := 18) (b := 48) (k := 29) qf_M_64 sh_48 cl_12 rfl (by decide) (by decide) rfl rfl rfl dd_M_law_18 (fun M3 _ => ?_)
    refine mj_iconst (pc := 21) (v := (1 : Int32)) (by decide) dd_M_law_21 ?_
    exact mj_zret (by decide) dd_M_law_22 rfl rfl
def F_Stand_owns (x1 : Int32) (M : mj_M) : Option (Int32 × mj_M) :=
    if (((M 20 1) >>> (x1 &&& 31)) &&& (1 : Int32)) = (0) then
     (some ((0 : Int32), M))
     else
     (some ((1 : Int32), M))
set_option maxRecDepth 20000 in
theorem T_Stand_owns {g : mj_G} : ∀ d, 1 ≤ d → ∀ (x1 : Int32) (M : mj_M), mj_Mt g (mj_qI g) d y_Stand_owns c_Stand_owns 2 (some .boolean) [.ref 20, .int x1] M (F_Stand_owns x1 M) := by
  intro d hd x1 M
  obtain ⟨e, rfl⟩ : ∃ e, d = e + 1 := ⟨d - 1, by omega⟩
  have he : 0 ≤ e := by omega
  refine mj_met (by decide +kernel) (Nat.le_of_ble_eq_true rfl) ?_
  unfold F_Stand_owns
  refine mj_L (L' := [(0, .ref 20), (1, .int x1)]) [0, 1] rfl ?_
  refine mj_aload_n (pc := 0) (i := 0) rfl dd_Stand_owns_0 ?_
  refine mj_getI (pc := 1) (b := 20) (k := 1) qf_Stand_37 sh_20 cl_8 rfl (by decide) rfl dd_Stand_owns_1 ?_
  refine mj_iload_n (pc := 4) (i := 1) rfl dd_Stand_owns_4 ?_
  refine mj_ishr (pc := 5) dd_Stand_owns_5 ?_
  refine mj_iconst (pc := 6) (v := (1 : Int32)) (by decide) dd_Stand_owns_6 ?_
  refine mj_iand (pc := 7) dd_Stand_owns_7 ?_
  refine mj_if_eq (pc := 8) (tgt := 15) dd_Stand_owns_8 rfl (fun h1 => ?_) (fun h1 => ?_)
  · refine mj_iconst (pc := 15) (v := (0 : Int32)) (by decide) dd_Stand_owns_15 ?_
    exact mj_zret (by decide) dd_Stand_owns_16 rfl rfl
  · refine mj_iconst (pc := 11) (v := (1 : Int32)) (by decide) dd_Stand_owns_11 ?_
    refine mj_goto (pc := 12) (tgt := 16) dd_Stand_owns_12 rfl ?_
    exact mj_zret (by decide) dd_Stand_owns_16 rfl rfl
def F_Stand_daysOf (x0 : Int32) (M : mj_M) : Option (Int32 × mj_M) :=
    some (mj_max x0 (1 : Int32), M)
set_option maxRecDepth 20000 in
theorem T_Stand_daysOf {g : mj_G} : ∀ d, 1 ≤ d → ∀ (x0 : Int32) (M : mj_M), mj_Mt g (mj_qI g) d y_Stand_daysOf c_Stand_daysOf 1 (some .int) [.int x0] M (F_Stand_daysOf x0 M) := by
  intro d hd x0 M
  obtain ⟨e, rfl⟩ : ∃ e, d = e + 1 := ⟨d - 1, by omega⟩
  have he : 0 ≤ e := by omega
  refine mj_met (by decide +kernel) (Nat.le_of_ble_eq_true rfl) ?_
  unfold F_Stand_daysOf
  refine mj_L (L' := [(0, .int x0)]) [0] rfl ?_
  refine mj_iload_n (pc := 0) (i := 0) rfl dd_Stand_daysOf_0 ?_
  refine mj_iconst (pc := 1) (v := (1 : Int32)) (by decide) dd_Stand_daysOf_1 ?_
  refine mj_mmax (pc := 2) (idx := 87) qm_Stand_87 (Nat.le_of_ble_eq_true rfl) dd_Stand_daysOf_2 ?_
  exact mj_iret dd_Stand_daysOf_5 rfl rfl
def F_Stand_hasDays (x1 : Int32) (M : mj_M) : Option (Int32 × mj_M) :=
    if (9999 : Int32) < ((M 20 3) + x1) then
     (some ((0 : Int32), M))
     else
     (some ((1 : Int32), M))
set_option maxRecDepth 20000 in
theorem T_Stand_hasDays {g : mj_G} : ∀ d, 1 ≤ d → ∀ (x1 : Int32) (M : mj_M), mj_Mt g (mj_qI g) d y_Stand_hasDays c_Stand_hasDays 2 (some .boolean) [.ref 20, .int x1] M (F_Stand_hasDays x1 M) := by
  intro d hd x1 M
  obtain ⟨e, rfl⟩ : ∃ e, d = e + 1 := ⟨d - 1, by omega⟩
  have he : 0 ≤ e := by omega
  refine mj_met (by decide +kernel) (Nat.le_of_ble_eq_true rfl) ?_
  unfold F_Stand_hasDays
  refine mj_L (L' := [(0, .ref 20), (1, .int x1)]) [0, 1] rfl ?_
  refine mj_aload_n (pc := 0) (i := 0) rfl dd_Stand_hasDays_0 ?_
  refine mj_getI (pc := 1) (b := 20) (k := 3) qf_Stand_42 sh_20 cl_8 rfl (by decide) rfl dd_Stand_hasDays_1 ?_
  refine mj_iload_n (pc := 4) (i := 1) rfl dd_Stand_hasDays_4 ?_
  refine mj_iadd (pc := 5) dd_Stand_hasDays_5 ?_
  refine mj_sipush (pc := 6) (v := (9999 : Int32)) (by decide) dd_Stand_hasDays_6 ?_
  refine mj_icmp_gt (pc := 9) (tgt := 16) dd_Stand_hasDays_9 rfl (fun h1 => ?_) (fun h1 => ?_)
  · refine mj_iconst (pc := 16) (v := (0 : Int32)) (by decide) dd_Stand_hasDays_16 ?_
    exact mj_zret (by decide) dd_Stand_hasDays_17 rfl rfl
  · refine mj_iconst (pc := 12) (v := (1 : Int32)) (by decide) dd_Stand_hasDays_12 ?_
    refine mj_goto (pc := 13) (tgt := 17) dd_Stand_hasDays_13 rfl ?_
    exact mj_zret (by decide) dd_Stand_hasDays_17 rfl rfl
def F_Stand_save_c25 (x2 : Int32) (M : mj_M) : Option (mj_M) :=
    mj_ck x2 1960 (mj_lt (mj_u M 25 x2.toNatClampNeg (M 20 0)) (fun M1 =>
     mj_ck (x2 + (1 : Int32)) 1960 (mj_lt (mj_u M1 25 (x2 + (1 : Int32)).toNatClampNeg (M1 20 1)) (fun M2 =>
     mj_ck (x2 + (2 : Int32)) 1960 (mj_lt (mj_u M2 25 (x2 + (2 : Int32)).toNatClampNeg (M2 20 2)) (fun M3 =>
     mj_ck (x2 + (3 : Int32)) 1960 (mj_lt (mj_u M3 25 (x2 + (3 : Int32)).toNatClampNeg (M3 20 3)) (fun M4 =>
     mj_ck (x2 + (4 : Int32)) 1960 (mj_lt (mj_u M4 25 (x2 + (4 : Int32)).toNatClampNeg (M4 20 4)) (fun M5 =>
     mj_ck (x2 + (5 : Int32)) 1960 (mj_lt (mj_u M5 25 (x2 + (5 : Int32)).toNatClampNeg (M5 20 5)) (fun M6 =>
     mj_ck (x2 + (6 : Int32)) 1960 (mj_lt (mj_u M6 25 (x2 + (6 : Int32)).toNatClampNeg (M6 20 6)) (fun M7 =>
     mj_ac (0 : Int32) (x2 + (7 : Int32)) (6 : Int32) 6 1960 (mj_lt (mj_a M7 25 (va_cpy (M7 21) (M7 25) (0 : Int32).toNatClampNeg (x2 + (7 : Int32)).toNatClampNeg (6 : Int32).toNatClampNeg)) (fun M8 =>
     mj_ac (0 : Int32) ((x2 + (7 : Int32)) + (6 : Int32)) (36 : Int32) 36 1960 (mj_lt (mj_a M8 25 (va_cpy (M8 22) (M8 25) (0 : Int32).toNatClampNeg ((x2 + (7 : Int32)) + (6 : Int32)).toNatClampNeg (36 : Int32).toNatClampNeg)) (fun M9 =>
     some M9))))))))))))))))))
set_option maxRecDepth 20000 in
theorem T_Stand_save_c25 {g : mj_G} : ∀ d, 1 ≤ d → ∀ (x2 : Int32) (M : mj_M), mj_Mt g (mj_qV g) d y_Stand_save c_Stand_save 3 none [.ref 20, .ref 25, .int x2] M (F_Stand_save_c25 x2 M) := by
  intro d hd x2 M
  obtain ⟨e, rfl⟩ : ∃ e, d = e + 1 := ⟨d - 1, by omega⟩
  have he : 0 ≤ e := by omega
  refine mj_met (by decide +kernel) (Nat.le_of_ble_eq_true rfl) ?_
  unfold F_Stand_save_c25
  refine mj_L (L' := [(0, .ref 20), (1, .ref 25), (2, .int x2)]) [0, 1, 2] rfl ?_
  refine mj_aload_n (pc := 0) (i := 1) rfl dd_Stand_save_0 ?_
  refine mj_iload_n (pc := 1) (i := 2) rfl dd_Stand_save_1 ?_
  refine mj_aload_n (pc := 2) (i := 0) rfl dd_Stand_save_2 ?_
  refine mj_getI (pc := 3) (b := 20) (k := 0) qf_Stand_29 sh_20 cl_8 rfl (by decide) rfl dd_Stand_save_3 ?_
  refine mj_iast (pc := 6) sh_25 dd_Stand_save_6 (fun M1 _ => ?_)
  refine mj_aload_n (pc := 7) (i := 1) rfl dd_Stand_save_7 ?_
  refine mj_iload_n (pc := 8) (i := 2) rfl dd_Stand_save_8 ?_
  refine mj_iconst (pc := 9) (v := (1 : Int32)) (by decide) dd_Stand_save_9 ?_
  refine mj_iadd (pc := 10) dd_Stand_save_10 ?_
  refine mj_aload_n (pc := 11) (i := 0) rfl dd_Stand_save_11 ?_
  refine mj_getI (pc := 12) (b := 20) (k := 1) qf_Stand_37 sh_20 cl_8 rfl (by decide) rfl dd_Stand_save_12 ?_
  refine mj_iast (pc := 15) sh_25 dd_Stand_save_15 (fun M2 _ => ?_)
  refine mj_aload_n (pc := 16) (i := 1) rfl dd_Stand_save_16 ?_
  refine mj_iload_n (pc := 17) (i := 2) rfl dd_Stand_save_17 ?_
  refine mj_iconst (pc := 18) (v := (2 : Int32)) (by decide) dd_Stand_save_18 ?_
  refine mj_iadd (pc := 19) dd_Stand_save_19 ?_
  refine mj_aload_n (pc := 20) (i := 0) rfl dd_Stand_save_20 ?_
  refine mj_getI (pc := 21) (b := 20) (k := 2) qf_Stand_41 sh_20 cl_8 rfl (by decide) rfl dd_Stand_save_21 ?_
  refine mj_iast (pc := 24) sh_25 dd_Stand_save_24 (fun M3 _ => ?_)
  refine mj_aload_n (pc := 25) (i := 1) rfl dd_Stand_save_25 ?_
  refine mj_iload_n (pc := 26) (i := 2) rfl dd_Stand_save_26 ?_
  refine mj_iconst (pc := 27) (v := (3 : Int32)) (by decide) dd_Stand_save_27 ?_
  refine mj_iadd (pc := 28) dd_Stand_save_28 ?_
  refine mj_aload_n (pc := 29) (i := 0) rfl dd_Stand_save_29 ?_
  refine mj_getI (pc := 30) (b := 20) (k := 3) qf_Stand_42 sh_20 cl_8 rfl (by decide) rfl dd_Stand_save_30 ?_
  refine mj_iast (pc := 33) sh_25 dd_Stand_save_33 (fun M4 _ => ?_)
  refine mj_aload_n (pc := 34) (i := 1) rfl dd_Stand_save_34 ?_
  refine mj_iload_n (pc := 35) (i := 2) rfl dd_Stand_save_35 ?_
  refine mj_iconst (pc := 36) (v := (4 : Int32)) (by decide) dd_Stand_save_36 ?_
  refine mj_iadd (pc := 37) dd_Stand_save_37 ?_
  refine mj_aload_n (pc := 38) (i := 0) rfl dd_Stand_save_38 ?_
  refine mj_getI (pc := 39) (b := 20) (k := 4) qf_Stand_45 sh_20 cl_8 rfl (by decide) rfl dd_Stand_save_39 ?_
  refine mj_iast (pc := 42) sh_25 dd_Stand_save_42 (fun M5 _ => ?_)
  refine mj_aload_n (pc := 43) (i := 1) rfl dd_Stand_save_43 ?_
  refine mj_iload_n (pc := 44) (i := 2) rfl dd_Stand_save_44 ?_
  refine mj_iconst (pc := 45) (v := (5 : Int32)) (by decide) dd_Stand_save_45 ?_
  refine mj_iadd (pc := 46) dd_Stand_save_46 ?_
  refine mj_aload_n (pc := 47) (i := 0) rfl dd_Stand_save_47 ?_
  refine mj_getI (pc := 48) (b := 20) (k := 5) qf_Stand_48 sh_20 cl_8 rfl (by decide) rfl dd_Stand_save_48 ?_
  refine mj_iast (pc := 51) sh_25 dd_Stand_save_51 (fun M6 _ => ?_)
  refine mj_aload_n (pc := 52) (i := 1) rfl dd_Stand_save_52 ?_
  refine mj_iload_n (pc := 53) (i := 2) rfl dd_Stand_save_53 ?_
  refine mj_bipush (pc := 54) (v := (6 : Int32)) (by decide) dd_Stand_save_54 ?_
  refine mj_iadd (pc := 56) dd_Stand_save_56 ?_
  refine mj_aload_n (pc := 57) (i := 0) rfl dd_Stand_save_57 ?_
  refine mj_getI (pc := 58) (b := 20) (k := 6) qf_Stand_51 sh_20 cl_8 rfl (by decide) rfl dd_Stand_save_58 ?_
  refine mj_iast (pc := 61) sh_25 dd_Stand_save_61 (fun M7 _ => ?_)
  refine mj_aload_n (pc := 62) (i := 0) rfl dd_Stand_save_62 ?_
  refine mj_getR (pc := 63) (b := 20) (k := 7) qf_Stand_13 sh_20 cl_8 rfl (by decide) (r := 21) rfl dd_Stand_save_63 ?_
  refine mj_iconst (pc := 66) (v := (0 : Int32)) (by decide) dd_Stand_save_66 ?_
  refine mj_aload_n (pc := 67) (i := 1) rfl dd_Stand_save_67 ?_
  refine mj_iload_n (pc := 68) (i := 2) rfl dd_Stand_save_68 ?_
  refine mj_bipush (pc := 69) (v := (7 : Int32)) (by decide) dd_Stand_save_69 ?_
  refine mj_iadd (pc := 71) dd_Stand_save_71 ?_
  refine mj_bipush (pc := 72) (v := (6 : Int32)) (by decide) dd_Stand_save_72 ?_
  refine mj_copy (pc := 74) (idx := 55) sh_21 sh_25 qm_Stand_55 (Nat.le_of_ble_eq_true rfl) dd_Stand_save_74 (fun M8 _ => ?_)
  refine mj_aload_n (pc := 77) (i := 0) rfl dd_Stand_save_77 ?_
  refine mj_getR (pc := 78) (b := 20) (k := 8) qf_Stand_17 sh_20 cl_8 rfl (by decide) (r := 22) rfl dd_Stand_save_78 ?_
  refine mj_iconst (pc := 81) (v := (0 : Int32)) (by decide) dd_Stand_save_81 ?_
  refine mj_aload_n (pc := 82) (i := 1) rfl dd_Stand_save_82 ?_
  refine mj_iload_n (pc := 83) (i := 2) rfl dd_Stand_save_83 ?_
  refine mj_bipush (pc := 84) (v := (7 : Int32)) (by decide) dd_Stand_save_84 ?_
  refine mj_iadd (pc := 86) dd_Stand_save_86 ?_
  refine mj_bipush (pc := 87) (v := (6 : Int32)) (by decide) dd_Stand_save_87 ?_
  refine mj_iadd (pc := 89) dd_Stand_save_89 ?_
  refine mj_bipush (pc := 90) (v := (36 : Int32)) (by decide) dd_Stand_save_90 ?_
  refine mj_copy (pc := 92) (idx := 55) sh_22 sh_25 qm_Stand_55 (Nat.le_of_ble_eq_true rfl) dd_Stand_save_92 (fun M9 _ => ?_)
  exact mj_vret dd_Stand_save_95 rfl rfl
def F_Past_keep_c20 (M : mj_M) : Option (mj_M) :=
    (F_Stand_save_c25 ((M 24 2) * (49 : Int32)) M).bind (fun q1 =>
     mj_lt (mj_u q1 24 2 (((q1 24 2) + (1 : Int32)) - ((q1 24 2) + (1 : Int32)) / (40 : Int32) * (40 : Int32))) (fun M2 =>
     mj_lt (mj_u M2 24 0 (mj_min ((M2 24 0) + (1 : Int32)) (40 : Int32))) (fun M3 =>
     some M3)))
set_option maxRecDepth 20000 in
theorem T_Past_keep_c20 {g : mj_G} : ∀ d, 2 ≤ d → ∀ (M : mj_M), mj_Mt g (mj_qV g) d y_Past_keep c_Past_keep 2 none [.ref 24, .ref 20] M (F_Past_keep_c20 M) := by
  intro d hd M
  obtain ⟨e, rfl⟩ : ∃ e, d = e + 1 := ⟨d - 1, by omega⟩
  have he : 1 ≤ e := by omega
  refine mj_met (by decide +kernel) (Nat.le_of_ble_eq_true rfl) ?_
  unfold F_Past_keep_c20
  refine mj_L (L' := [(0, .ref 24), (1, .ref 20)]) [0, 1] rfl ?_
  refine mj_aload_n (pc := 0) (i := 1) rfl dd_Past_keep_0 ?_
  refine mj_aload_n (pc := 1) (i := 0) rfl dd_Past_keep_1 ?_
  refine mj_getR (pc := 2) (b := 24) (k := 3) qf_Past_11 sh_24 cl_6 rfl (by decide) (r := 25) rfl dd_Past_keep_2 ?_
  refine mj_aload_n (pc := 5) (i := 0) rfl dd_Past_keep_5 ?_
  refine mj_getI (pc := 6) (b := 24) (k := 2) qf_Past_29 sh_24 cl_6 rfl (by decide) rfl dd_Past_keep_6 ?_
  refine mj_bipush (pc := 9) (v := (49 : Int32)) (by decide) dd_Past_keep_9 ?_
  refine mj_imul (pc := 11) dd_Past_keep_11 ?_
  refine mj_callVV (pc := 12) (idx := 32) (b := 20) (As := [.ref 25, .int ((M 24 2) * (49 : Int32))]) (st := []) sh_20 cl_8 ev_Stand_save ql_Past_32 rfl (Nat.le_of_ble_eq_true rfl) (T_Stand_save_c25 (g := g) e (by omega) ((M 24 2) * (49 : Int32)) M) dd_Past_keep_12 (fun q1 hq1 => ?_)
  refine mj_aload_n (pc := 15) (i := 0) rfl dd_Past_keep_15 ?_
  refine mj_aload_n (pc := 16) (i := 0) rfl dd_Past_keep_16 ?_
  refine mj_getI (pc := 17) (b := 24) (k := 2) qf_Past_29 sh_24 cl_6 rfl (by decide) rfl dd_Past_keep_17 ?_
  refine mj_iconst (pc := 20) (v := (1 : Int32)) (by decide) dd_Past_keep_20 ?_
  refine mj_iadd (pc := 21) dd_Past_keep_21 ?_
  refine mj_bipush (pc := 22) (v := (40 : Int32)) (by decide) dd_Past_keep_22 ?_
  refine mj_iremK (pc := 24) (by decide) dd_Past_keep_24 ?_
  refine mj_putI (pc := 25) (b := 24) (k := 2) qf_Past_29 sh_24 cl_6 rfl (by decide) (by decide) rfl rfl rfl dd_Past_keep_25 (fun M2 _ => ?_)
  refine mj_aload_n (pc := 28) (i := 0) rfl dd_Past_keep_28 ?_
  refine mj_aload_n (pc := 29) (i := 0) rfl dd_Past_keep_29 ?_
  refine mj_getI (pc := 30) (b := 24) (k := 0) qf_Past_21 sh_24 cl_6 rfl (by decide) rfl dd_Past_keep_30 ?_
  refine mj_iconst (pc := 33) (v := (1 : Int32)) (by decide) dd_Past_keep_33 ?_
  refine mj_iadd (pc := 34) dd_Past_keep_34 ?_
  refine mj_bipush (pc := 35) (v := (40 : Int32)) (by decide) dd_Past_keep_35 ?_
  refine mj_mmin (pc := 37) (idx := 36) qm_Past_36 (Nat.le_of_ble_eq_true rfl) dd_Past_keep_37 ?_
  refine mj_putI (pc := 40) (b := 24) (k := 0) qf_Past_21 sh_24 cl_6 rfl (by decide) (by decide) rfl rfl rfl dd_Past_keep_40 (fun M3 _ => ?_)
  exact mj_vret dd_Past_keep_43 rfl rfl
def F_Stand_heardOnceMore (x0 : Int32) (M : mj_M) : Option (Int32 × mj_M) :=
    some (mj_min (x0 + (1 : Int32)) (99 : Int32), M)
set_option maxRecDepth 20000 in
theorem T_Stand_heardOnceMore {g : mj_G} : ∀ d, 1 ≤ d → ∀ (x0 : Int32) (M : mj_M), mj_Mt g (mj_qI g) d y_Stand_heardOnceMore c_Stand_heardOnceMore 1 (some .int) [.int x0] M (F_Stand_heardOnceMore x0 M) := by
  intro d hd x0 M
  obtain ⟨e, rfl⟩ : ∃ e, d = e + 1 := ⟨d - 1, by omega⟩
  have he : 0 ≤ e := by omega
  refine mj_met (by decide +kernel) (Nat.le_of_ble_eq_true rfl) ?_
  unfold F_Stand_heardOnceMore
  refine mj_L (L' := [(0, .int x0)]) [0] rfl ?_
  refine mj_iload_n (pc := 0) (i := 0) rfl dd_Stand_heardOnceMore_0 ?_
  refine mj_iconst (pc := 1) (v := (1 : Int32)) (by decide) dd_Stand_heardOnceMore_1 ?_
  refine mj_iadd (pc := 2) dd_Stand_heardOnceMore_2 ?_
  refine mj_bipush (pc := 3) (v := (99 : Int32)) (by decide) dd_Stand_heardOnceMore_3 ?_
  refine mj_mmin (pc := 5) (idx := 83) qm_Stand_83 (Nat.le_of_ble_eq_true rfl) dd_Stand_heardOnceMore_5 ?_
  exact mj_iret dd_Stand_heardOnceMore_8 rfl rfl
def F_Stand_breadAfter (x0 : Int32) (x1 : Int32) (M : mj_M) : Option (Int32 × mj_M) :=
    if x1 = (0) then
     (some (mj_max (x0 - (1 : Int32)) (0 : Int32), M))
     else
     (some (mj_min (x0 + (x1 / (3 : Int32))) (999 : Int32), M))
set_option maxRecDepth 20000 in
theorem T_Stand_breadAfter {g : mj_G} : ∀ d, 1 ≤ d → ∀ (x0 : Int32) (x1 : Int32) (M : mj_M), mj_Mt g (mj_qI g) d y_Stand_breadAfter c_Stand_breadAfter 2 (some .int) [.int x0, .int x1] M (F_Stand_breadAfter x0 x1 M) := by
  intro d hd x0 x1 M
  obtain ⟨e, rfl⟩ : ∃ e, d = e + 1 := ⟨d - 1, by omega⟩
  have he : 0 ≤ e := by omega
  refine mj_met (by decide +kernel) (Nat.le_of_ble_eq_true rfl) ?_
  unfold F_Stand_breadAfter
  refine mj_L (L' := [(0, .int x0), (1, .int x1)]) [0, 1] rfl ?_
  refine mj_iload_n (pc := 0) (i := 1) rfl dd_Stand_breadAfter_0 ?_
  refine mj_if_ne (pc := 1) (tgt := 14) dd_Stand_breadAfter_1 rfl (fun h1 => ?_) (fun h1 => ?_)
  · refine mj_iload_n (pc := 4) (i := 0) rfl dd_Stand_breadAfter_4 ?_
    refine mj_iconst (pc := 5) (v := (1 : Int32)) (by decide) dd_Stand_breadAfter_5 ?_
    refine mj_isub (pc := 6) dd_Stand_breadAfter_6 ?_
    refine mj_iconst (pc := 7) (v := (0 : Int32)) (by decide) dd_Stand_breadAfter_7 ?_
    refine mj_mmax (pc := 8) (idx := 87) qm_Stand_87 (Nat.le_of_ble_eq_true rfl) dd_Stand_breadAfter_8 ?_
    refine mj_goto (pc := 11) (tgt := 25) dd_Stand_breadAfter_11 rfl ?_
    exact mj_iret dd_Stand_breadAfter_25 rfl rfl
  · refine mj_iload_n (pc := 14) (i := 0) rfl dd_Stand_breadAfter_14 ?_
    refine mj_iload_n (pc := 15) (i := 1) rfl dd_Stand_breadAfter_15 ?_
    refine mj_iconst (pc := 16) (v := (3 : Int32)) (by decide) dd_Stand_breadAfter_16 ?_
    refine mj_idivK (pc := 17) (by decide) dd_Stand_breadAfter_17 ?_
    refine mj_iadd (pc := 18) dd_Stand_breadAfter_18 ?_
    refine mj_sipush (pc := 19) (v := (999 : Int32)) (by decide) dd_Stand_breadAfter_19 ?_
    refine mj_mmin (pc := 22) (idx := 83) qm_Stand_83 (Nat.le_of_ble_eq_true rfl) dd_Stand_breadAfter_22 ?_
    exact mj_iret dd_Stand_breadAfter_25 rfl rfl
def F_Stand_tellHere_b74 (x1 : Int32) (x2 : Int32) (M : mj_M) : Option (mj_M) :=
    mj_ck ((M 20 6) - (M 20 6) / (100 : Int32) * (100 : Int32)) 100 (mj_lt (mj_u M 23 ((M 20 6) - (M 20 6) / (100 : Int32) * (100 : Int32)).toNatClampNeg ((((M 20 0) * (1000 : Int32)) + (x1 * (100 : Int32))) + x2)) (fun M11 =>
     mj_lt (mj_u M11 20 6 ((M11 20 6) + (1 : Int32))) (fun M12 =>
     some M12)))
set_option maxRecDepth 20000 in
theorem T_Stand_tellHere_b74 {g : mj_G} (e : Nat) (he : 1 ≤ e) (x1 : Int32) (x2 : Int32) (M : mj_M) : mj_X g (mj_qV g) "WinterTellers$Stand" c_Stand_tellHere 4 none e 74 [(0, .ref 20), (1, .int x1), (2, .int x2)] [] M (F_Stand_tellHere_b74 x1 x2 M) := by
  unfold F_Stand_tellHere_b74
  refine mj_aload_n (pc := 74) (i := 0) rfl dd_Stand_tellHere_74 ?_
  refine mj_getR (pc := 75) (b := 20) (k := 9) qf_Stand_20 sh_20 cl_8 rfl (by decide) (r := 23) rfl dd_Stand_tellHere_75 ?_
  refine mj_aload_n (pc := 78) (i := 0) rfl dd_Stand_tellHere_78 ?_
  refine mj_getI (pc := 79) (b := 20) (k := 6) qf_Stand_51 sh_20 cl_8 rfl (by decide) rfl dd_Stand_tellHere_79 ?_
  refine mj_bipush (pc := 82) (v := (100 : Int32)) (by decide) dd_Stand_tellHere_82 ?_
  refine mj_iremK (pc := 84) (by decide) dd_Stand_tellHere_84 ?_
  refine mj_aload_n (pc := 85) (i := 0) rfl dd_Stand_tellHere_85 ?_
  refine mj_getI (pc := 86) (b := 20) (k := 0) qf_Stand_29 sh_20 cl_8 rfl (by decide) rfl dd_Stand_tellHere_86 ?_
  refine mj_sipush (pc := 89) (v := (1000 : Int32)) (by decide) dd_Stand_tellHere_89 ?_
  refine mj_imul (pc := 92) dd_Stand_tellHere_92 ?_
  refine mj_iload_n (pc := 93) (i := 1) rfl dd_Stand_tellHere_93 ?_
  refine mj_bipush (pc := 94) (v := (100 : Int32)) (by decide) dd_Stand_tellHere_94 ?_
  refine mj_imul (pc := 96) dd_Stand_tellHere_96 ?_
  refine mj_iadd (pc := 97) dd_Stand_tellHere_97 ?_
  refine mj_iload_n (pc := 98) (i := 2) rfl dd_Stand_tellHere_98 ?_
  refine mj_iadd (pc := 99) dd_Stand_tellHere_99 ?_
  refine mj_iast (pc := 100) sh_23 dd_Stand_tellHere_100 (fun M11 _ => ?_)
  refine mj_aload_n (pc := 101) (i := 0) rfl dd_Stand_tellHere_101 ?_
  refine mj_dup (pc := 102) rfl dd_Stand_tellHere_102 ?_
  refine mj_getI (pc := 103) (b := 20) (k := 6) qf_Stand_51 sh_20 cl_8 rfl (by decide) rfl dd_Stand_tellHere_103 ?_
  refine mj_iconst (pc := 106) (v := (1 : Int32)) (by decide) dd_Stand_tellHere_106 ?_
  refine mj_iadd (pc := 107) dd_Stand_tellHere_107 ?_
  refine mj_putI (pc := 108) (b := 20) (k := 6) qf_Stand_51 sh_20 cl_8 rfl (by decide) (by decide) rfl rfl rfl dd_Stand_tellHere_108 (fun M12 _ => ?_)
  exact mj_vret dd_Stand_tellHere_111 rfl rfl
def F_Stand_tellHere (x1 : Int32) (x2 : Int32) (M : mj_M) : Option (mj_M) :=
    mj_lt (((M 20 0) * (6 : Int32)) + x1) (fun v1 =>
     mj_ck v1 36 (
     (F_Stand_heardOnceMore (M 22 v1.toNatClampNeg) M).bind (fun q2 =>
     mj_ck v1 36 (mj_lt (mj_u q2.2 22 v1.toNatClampNeg q2.1) (fun M3 =>
     (F_Stand_daysOf x2 M3).bind (fun q4 =>
     mj_lt (mj_u q4.2 20 3 ((M3 20 3) + q4.1)) (fun M5 =>
     (F_Stand_breadAfter (M5 20 2) x2 M5).bind (fun q6 =>
     mj_lt (mj_u q6.2 20 2 q6.1) (fun M7 =>
     mj_lt (mj_u M7 20 4 ((M7 20 4) + x2)) (fun M8 =>
     if x2 = (0) then
     (mj_lt (mj_u M8 20 5 ((M8 20 5) + (1 : Int32))) (fun M10 =>
     F_Stand_tellHere_b74 x1 x2 M10))
     else
     (F_Stand_tellHere_b74 x1 x2 M8)))))))))))
set_option maxRecDepth 20000 in
theorem T_Stand_tellHere {g : mj_G} : ∀ d, 2 ≤ d → ∀ (x1 : Int32) (x2 : Int32) (M : mj_M), mj_Mt g (mj_qV g) d y_Stand_tellHere c_Stand_tellHere 4 none [.ref 20, .int x1, .int x2] M (F_Stand_tellHere x1 x2 M) := by
  intro d hd x1 x2 M
  obtain ⟨e, rfl⟩ : ∃ e, d = e + 1 := ⟨d - 1, by omega⟩
  have he : 1 ≤ e := by omega
  refine mj_met (by decide +kernel) (Nat.le_of_ble_eq_true rfl) ?_
  unfold F_Stand_tellHere
  refine mj_L (L' := [(0, .ref 20), (1, .int x1), (2, .int x2)]) [0, 1, 2] rfl ?_
  refine mj_aload_n (pc := 0) (i := 0) rfl dd_Stand_tellHere_0 ?_
  refine mj_getI (pc := 1) (b := 20) (k := 0) qf_Stand_29 sh_20 cl_8 rfl (by decide) rfl dd_Stand_tellHere_1 ?_
  refine mj_bipush (pc := 4) (v := (6 : Int32)) (by decide) dd_Stand_tellHere_4 ?_
  refine mj_imul (pc := 6) dd_Stand_tellHere_6 ?_
  refine mj_iload_n (pc := 7) (i := 1) rfl dd_Stand_tellHere_7 ?_
  refine mj_iadd (pc := 8) dd_Stand_tellHere_8 ?_
  refine mj_istore_nL (pc := 9) (by decide) dd_Stand_tellHere_9 (fun v1 _ => ?_)
  refine mj_L (L' := [(3, .int v1), (0, .ref 20), (1, .int x1), (2, .int x2)]) [0, 1, 2, 3] rfl ?_
  refine mj_aload_n (pc := 10) (i := 0) rfl dd_Stand_tellHere_10 ?_
  refine mj_getR (pc := 11) (b := 20) (k := 8) qf_Stand_17 sh_20 cl_8 rfl (by decide) (r := 22) rfl dd_Stand_tellHere_11 ?_
  refine mj_iload_n (pc := 14) (i := 3) rfl dd_Stand_tellHere_14 ?_
  refine mj_aload_n (pc := 15) (i := 0) rfl dd_Stand_tellHere_15 ?_
  refine mj_getR (pc := 16) (b := 20) (k := 8) qf_Stand_17 sh_20 cl_8 rfl (by decide) (r := 22) rfl dd_Stand_tellHere_16 ?_
  refine mj_iload_n (pc := 19) (i := 3) rfl dd_Stand_tellHere_19 ?_
  refine mj_iald (pc := 20) sh_22 dd_Stand_tellHere_20 ?_
  refine mj_callSI (pc := 21) (idx := 93) (As := [.int (M 22 v1.toNatClampNeg)]) (st := [.int v1, .ref 22]) es_Stand_heardOnceMore ql_Stand_93 rfl (Nat.le_of_ble_eq_true rfl) (T_Stand_heardOnceMore (g := g) e (by omega) (M 22 v1.toNatClampNeg) M) dd_Stand_tellHere_21 (fun q2 hq2 => ?_)
  refine mj_iast (pc := 24) sh_22 dd_Stand_tellHere_24 (fun M3 _ => ?_)
  refine mj_aload_n (pc := 25) (i := 0) rfl dd_Stand_tellHere_25 ?_
  refine mj_dup (pc := 26) rfl dd_Stand_tellHere_26 ?_
  refine mj_getI (pc := 27) (b := 20) (k := 3) qf_Stand_42 sh_20 cl_8 rfl (by decide) rfl dd_Stand_tellHere_27 ?_
  refine mj_iload_n (pc := 30) (i := 2) rfl dd_Stand_tellHere_30 ?_
  refine mj_callSI (pc := 31) (idx := 96) (As := [.int x2]) (st := [.int (M3 20 3), .ref 20]) es_Stand_daysOf ql_Stand_96 rfl (Nat.le_of_ble_eq_true rfl) (T_Stand_daysOf (g := g) e (by omega) x2 M3) dd_Stand_tellHere_31 (fun q4 hq4 => ?_)
  refine mj_iadd (pc := 34) dd_Stand_tellHere_34 ?_
  refine mj_putI (pc := 35) (b := 20) (k := 3) qf_Stand_42 sh_20 cl_8 rfl (by decide) (by decide) rfl rfl rfl dd_Stand_tellHere_35 (fun M5 _ => ?_)
  refine mj_aload_n (pc := 38) (i := 0) rfl dd_Stand_tellHere_38 ?_
  refine mj_aload_n (pc := 39) (i := 0) rfl dd_Stand_tellHere_39 ?_
  refine mj_getI (pc := 40) (b := 20) (k := 2) qf_Stand_41 sh_20 cl_8 rfl (by decide) rfl dd_Stand_tellHere_40 ?_
  refine mj_iload_n (pc := 43) (i := 2) rfl dd_Stand_tellHere_43 ?_
  refine mj_callSI (pc := 44) (idx := 99) (As := [.int (M5 20 2), .int x2]) (st := [.ref 20]) es_Stand_breadAfter ql_Stand_99 rfl (Nat.le_of_ble_eq_true rfl) (T_Stand_breadAfter (g := g) e (by omega) (M5 20 2) x2 M5) dd_Stand_tellHere_44 (fun q6 hq6 => ?_)
  refine mj_putI (pc := 47) (b := 20) (k := 2) qf_Stand_41 sh_20 cl_8 rfl (by decide) (by decide) rfl rfl rfl dd_Stand_tellHere_47 (fun M7 _ => ?_)
  refine mj_aload_n (pc := 50) (i := 0) rfl dd_Stand_tellHere_50 ?_
  refine mj_dup (pc := 51) rfl dd_Stand_tellHere_51 ?_
  refine mj_getI (pc := 52) (b := 20) (k := 4) qf_Stand_45 sh_20 cl_8 rfl (by decide) rfl dd_Stand_tellHere_52 ?_
  refine mj_iload_n (pc := 55) (i := 2) rfl dd_Stand_tellHere_55 ?_
  refine mj_iadd (pc := 56) dd_Stand_tellHere_56 ?_
  refine mj_putI (pc := 57) (b := 20) (k := 4) qf_Stand_45 sh_20 cl_8 rfl (by decide) (by decide) rfl rfl rfl dd_Stand_tellHere_57 (fun M8 _ => ?_)
  refine mj_iload_n (pc := 60) (i := 2) rfl dd_Stand_tellHere_60 ?_
  refine mj_if_ne (pc := 61) (tgt := 74) dd_Stand_tellHere_61 rfl (fun h9 => ?_) (fun h9 => ?_)
  · refine mj_aload_n (pc := 64) (i := 0) rfl dd_Stand_tellHere_64 ?_
    refine mj_dup (pc := 65) rfl dd_Stand_tellHere_65 ?_
    refine mj_getI (pc := 66) (b := 20) (k := 5) qf_Stand_48 sh_20 cl_8 rfl (by decide) rfl dd_Stand_tellHere_66 ?_
    refine mj_iconst (pc := 69) (v := (1 : Int32)) (by decide) dd_Stand_tellHere_69 ?_
    refine mj_iadd (pc := 70) dd_Stand_tellHere_70 ?_
    refine mj_putI (pc := 71) (b := 20) (k := 5) qf_Stand_48 sh_20 cl_8 rfl (by decide) (by decide) rfl rfl rfl dd_Stand_tellHere_71 (fun M10 _ => ?_)
    refine mj_L (L' := [(0, .ref 20), (1, .int x1), (2, .int x2)]) [1, 2, 3] rfl ?_
    exact T_Stand_tellHere_b74 (g := g) e he x1 x2 M10
  · refine mj_L (L' := [(0, .ref 20), (1, .int x1), (2, .int x2)]) [1, 2, 3] rfl ?_
    exact T_Stand_tellHere_b74 (g := g) e he x1 x2 M8
def F_W_refuse (x1 : Int32) (M : mj_M) : Option (Int32 × mj_M) :=
    mj_ck x1 5 (
     mj_ck x1 5 (mj_lt (mj_u M 1 x1.toNatClampNeg ((M 1 x1.toNatClampNeg) + (1 : Int32))) (fun M1 =>
     some ((-1 : Int32), M1))))
set_option maxRecDepth 20000 in
theorem T_W_refuse {g : mj_G} : ∀ d, 1 ≤ d → ∀ (x1 : Int32) (M : mj_M), mj_Mt g (mj_qI g) d y_W_refuse c_W_refuse 2 (some .int) [.ref 0, .int x1] M (F_W_refuse x1 M) := by
  intro d hd x1 M
  obtain ⟨e, rfl⟩ : ∃ e, d = e + 1 := ⟨d - 1, by omega⟩
  have he : 0 ≤ e := by omega
  refine mj_met (by decide +kernel) (Nat.le_of_ble_eq_true rfl) ?_
  unfold F_W_refuse
  refine mj_L (L' := [(0, .ref 0), (1, .int x1)]) [0, 1] rfl ?_
  refine mj_aload_n (pc := 0) (i := 0) rfl dd_W_refuse_0 ?_
  refine mj_getR (pc := 1) (b := 0) (k := 11) qf_W_94 sh_0 cl_11 rfl (by decide) (r := 1) rfl dd_W_refuse_1 ?_
  refine mj_iload_n (pc := 4) (i := 1) rfl dd_W_refuse_4 ?_
  refine mj_dup2 (pc := 5) rfl rfl dd_W_refuse_5 ?_
  refine mj_iald (pc := 6) sh_1 dd_W_refuse_6 ?_
  refine mj_iconst (pc := 7) (v := (1 : Int32)) (by decide) dd_W_refuse_7 ?_
  refine mj_iadd (pc := 8) dd_W_refuse_8 ?_
  refine mj_iast (pc := 9) sh_1 dd_W_refuse_9 (fun M1 _ => ?_)
  refine mj_iconst (pc := 10) (v := (-1 : Int32)) (by decide) dd_W_refuse_10 ?_
  exact mj_iret dd_W_refuse_11 rfl rfl
def F_W_tells (N : Nat) (x1 : Int32) (M : mj_M) : Option (Int32 × mj_M) :=
    (F_Coast_hasTale x1 M).bind (fun q1 =>
     if q1.1 = (0) then
     ((F_W_refuse (0 : Int32) q1.2).bind (fun q13 =>
     some (q13.1, q13.2)))
     else
     ((F_Stand_owns x1 q1.2).bind (fun q3 =>
     if q3.1 = (0) then
     ((F_W_refuse (2 : Int32) q3.2).bind (fun q12 =>
     some (q12.1, q12.2)))
     else
     ((F_Stays_now N (q3.2 20 0) x1 q3.2).bind (fun q5 =>
     (F_Stand_daysOf q5.1 q5.2).bind (fun q6 =>
     (F_Stand_hasDays q6.1 q6.2).bind (fun q7 =>
     if q7.1 = (0) then
     ((F_W_refuse (4 : Int32) q7.2).bind (fun q11 =>
     some (q11.1, q11.2)))
     else
     ((F_Past_keep_c20 q7.2).bind (fun q9 =>
     (F_Stand_tellHere x1 q5.1 q9).bind (fun q10 =>
     some (q5.1, q10)))))))))))
set_option maxRecDepth 20000 in
theorem T_W_tells {g : mj_G} (N : Nat) : ∀ d, 6 ≤ d → ∀ (x1 : Int32) (M : mj_M), mj_Mt g (mj_qI g) d y_W_tells c_W_tells 3 (some .int) [.ref 0, .int x1] M (F_W_tells N x1 M) := by
  intro d hd x1 M
  obtain ⟨e, rfl⟩ : ∃ e, d = e + 1 := ⟨d - 1, by omega⟩
  have he : 5 ≤ e := by omega
  refine mj_met (by decide +kernel) (Nat.le_of_ble_eq_true rfl) ?_
  unfold F_W_tells
  refine mj_L (L' := [(0, .ref 0), (1, .int x1)]) [0, 1] rfl ?_
  refine mj_aload_n (pc := 0) (i := 0) rfl dd_W_tells_0 ?_
  refine mj_getR (pc := 1) (b := 0) (k := 4) qf_W_42 sh_0 cl_11 rfl (by decide) (r := 13) rfl dd_W_tells_1 ?_
  refine mj_iload_n (pc := 4) (i := 1) rfl dd_W_tells_4 ?_
  refine mj_callVI (pc := 5) (idx := 163) (b := 13) (As := [.int x1]) (st := []) sh_13 cl_0 ev_Coast_hasTale ql_W_163 rfl (Nat.le_of_ble_eq_true rfl) (T_Coast_hasTale (g := g) e (by omega) x1 M) dd_W_tells_5 (fun q1 hq1 => ?_)
  refine mj_if_ne (pc := 8) (tgt := 17) dd_W_tells_8 rfl (fun h2 => ?_) (fun h2 => ?_)
  · refine mj_aload_n (pc := 11) (i := 0) rfl dd_W_tells_11 ?_
    refine mj_iconst (pc := 12) (v := (0 : Int32)) (by decide) dd_W_tells_12 ?_
    refine mj_callVI (pc := 13) (idx := 195) (b := 0) (As := [.int (0 : Int32)]) (st := []) sh_0 cl_11 ev_W_refuse ql_W_195 rfl (Nat.le_of_ble_eq_true rfl) (T_W_refuse (g := g) e (by omega) (0 : Int32) q1.2) dd_W_tells_13 (fun q13 hq13 => ?_)
    exact mj_iret dd_W_tells_16 rfl rfl
  · refine mj_aload_n (pc := 17) (i := 0) rfl dd_W_tells_17 ?_
    refine mj_getR (pc := 18) (b := 0) (k := 5) qf_W_49 sh_0 cl_11 rfl (by decide) (r := 20) rfl dd_W_tells_18 ?_
    refine mj_iload_n (pc := 21) (i := 1) rfl dd_W_tells_21 ?_
    refine mj_callVI (pc := 22) (idx := 178) (b := 20) (As := [.int x1]) (st := []) sh_20 cl_8 ev_Stand_owns ql_W_178 rfl (Nat.le_of_ble_eq_true rfl) (T_Stand_owns (g := g) e (by omega) x1 q1.2) dd_W_tells_22 (fun q3 hq3 => ?_)
    refine mj_if_ne (pc := 25) (tgt := 34) dd_W_tells_25 rfl (fun h4 => ?_) (fun h4 => ?_)
    · refine mj_aload_n (pc := 28) (i := 0) rfl dd_W_tells_28 ?_
      refine mj_iconst (pc := 29) (v := (2 : Int32)) (by decide) dd_W_tells_29 ?_
      refine mj_callVI (pc := 30) (idx := 195) (b := 0) (As := [.int (2 : Int32)]) (st := []) sh_0 cl_11 ev_W_refuse ql_W_195 rfl (Nat.le_of_ble_eq_true rfl) (T_W_refuse (g := g) e (by omega) (2 : Int32) q3.2) dd_W_tells_30 (fun q12 hq12 => ?_)
      exact mj_iret dd_W_tells_33 rfl rfl
    · refine mj_aload_n (pc := 34) (i := 0) rfl dd_W_tells_34 ?_
      refine mj_getR (pc := 35) (b := 0) (k := 7) qf_W_65 sh_0 cl_11 rfl (by decide) (r := 28) rfl dd_W_tells_35 ?_
      refine mj_aload_n (pc := 38) (i := 0) rfl dd_W_tells_38 ?_
      refine mj_getR (pc := 39) (b := 0) (k := 5) qf_W_49 sh_0 cl_11 rfl (by decide) (r := 20) rfl dd_W_tells_39 ?_
      refine mj_getI (pc := 42) (b := 20) (k := 0) qf_W_198 sh_20 cl_8 rfl (by decide) rfl dd_W_tells_42 ?_
      refine mj_iload_n (pc := 45) (i := 1) rfl dd_W_tells_45 ?_
      refine mj_callVI (pc := 46) (idx := 188) (b := 28) (As := [.int (q3.2 20 0), .int x1]) (st := []) sh_28 cl_9 ev_Stays_now ql_W_188 rfl (Nat.le_of_ble_eq_true rfl) (T_Stays_now (g := g) N e (by omega) (q3.2 20 0) x1 q3.2) dd_W_tells_46 (fun q5 hq5 => ?_)
      refine mj_istore_n (pc := 49) (by decide) dd_W_tells_49 ?_
      refine mj_L (L' := [(2, .int q5.1), (0, .ref 0), (1, .int x1)]) [0, 1, 2] rfl ?_
      refine mj_aload_n (pc := 50) (i := 0) rfl dd_W_tells_50 ?_
      refine mj_getR (pc := 51) (b := 0) (k := 5) qf_W_49 sh_0 cl_11 rfl (by decide) (r := 20) rfl dd_W_tells_51 ?_
      refine mj_iload_n (pc := 54) (i := 2) rfl dd_W_tells_54 ?_
      refine mj_callSI (pc := 55) (idx := 201) (As := [.int q5.1]) (st := [.ref 20]) es_Stand_daysOf ql_W_201 rfl (Nat.le_of_ble_eq_true rfl) (T_Stand_daysOf (g := g) e (by omega) q5.1 q5.2) dd_W_tells_55 (fun q6 hq6 => ?_)
      refine mj_callVI (pc := 58) (idx := 204) (b := 20) (As := [.int q6.1]) (st := []) sh_20 cl_8 ev_Stand_hasDays ql_W_204 rfl (Nat.le_of_ble_eq_true rfl) (T_Stand_hasDays (g := g) e (by omega) q6.1 q6.2) dd_W_tells_58 (fun q7 hq7 => ?_)
      refine mj_if_ne (pc := 61) (tgt := 70) dd_W_tells_61 rfl (fun h8 => ?_) (fun h8 => ?_)
      · refine mj_aload_n (pc := 64) (i := 0) rfl dd_W_tells_64 ?_
        refine mj_iconst (pc := 65) (v := (4 : Int32)) (by decide) dd_W_tells_65 ?_
        refine mj_callVI (pc := 66) (idx := 195) (b := 0) (As := [.int (4 : Int32)]) (st := []) sh_0 cl_11 ev_W_refuse ql_W_195 rfl (Nat.le_of_ble_eq_true rfl) (T_W_refuse (g := g) e (by omega) (4 : Int32) q7.2) dd_W_tells_66 (fun q11 hq11 => ?_)
        exact mj_iret dd_W_tells_69 rfl rfl
      · refine mj_aload_n (pc := 70) (i := 0) rfl dd_W_tells_70 ?_
        refine mj_getR (pc := 71) (b := 0) (k := 6) qf_W_56 sh_0 cl_11 rfl (by decide) (r := 24) rfl dd_W_tells_71 ?_
        refine mj_aload_n (pc := 74) (i := 0) rfl dd_W_tells_74 ?_
        refine mj_getR (pc := 75) (b := 0) (k := 5) qf_W_49 sh_0 cl_11 rfl (by decide) (r := 20) rfl dd_W_tells_75 ?_
        refine mj_callVV (pc := 78) (idx := 207) (b := 24) (As := [.ref 20]) (st := []) sh_24 cl_6 ev_Past_keep ql_W_207 rfl (Nat.le_of_ble_eq_true rfl) (T_Past_keep_c20 (g := g) e (by omega) q7.2) dd_W_tells_78 (fun q9 hq9 => ?_)
        refine mj_aload_n (pc := 81) (i := 0) rfl dd_W_tells_81 ?_
        refine mj_getR (pc := 82) (b := 0) (k := 5) qf_W_49 sh_0 cl_11 rfl (by decide) (r := 20) rfl dd_W_tells_82 ?_
        refine mj_iload_n (pc := 85) (i := 1) rfl dd_W_tells_85 ?_
        refine mj_iload_n (pc := 86) (i := 2) rfl dd_W_tells_86 ?_
        refine mj_callVV (pc := 87) (idx := 211) (b := 20) (As := [.int x1, .int q5.1]) (st := []) sh_20 cl_8 ev_Stand_tellHere ql_W_211 rfl (Nat.le_of_ble_eq_true rfl) (T_Stand_tellHere (g := g) e (by omega) x1 q5.1 q9) dd_W_tells_87 (fun q10 hq10 => ?_)
        refine mj_iload_n (pc := 90) (i := 2) rfl dd_W_tells_90 ?_
        exact mj_iret dd_W_tells_91 rfl rfl
def F_M_isLate (x1 : Int32) (M : mj_M) : Option (Int32 × mj_M) :=
    if ((M 65 45) + x1) ≤ (9999 : Int32) then
     (some ((0 : Int32), M))
     else
     (some ((1 : Int32), M))
set_option maxRecDepth 20000 in
theorem T_M_isLate {g : mj_G} : ∀ d, 1 ≤ d → ∀ (x1 : Int32) (M : mj_M), mj_Mt g (mj_qI g) d y_M_isLate c_M_isLate 2 (some .boolean) [.ref 48, .int x1] M (F_M_isLate x1 M) := by
  intro d hd x1 M
  obtain ⟨e, rfl⟩ : ∃ e, d = e + 1 := ⟨d - 1, by omega⟩
  have he : 0 ≤ e := by omega
  refine mj_met (by decide +kernel) (Nat.le_of_ble_eq_true rfl) ?_
  unfold F_M_isLate
  refine mj_L (L' := [(0, .ref 48), (1, .int x1)]) [0, 1] rfl ?_
  refine mj_aload_n (pc := 0) (i := 0) rfl dd_M_isLate_0 ?_
  refine mj_getR (pc := 1) (b := 48) (k := 27) qf_M_58 sh_48 cl_12 rfl (by decide) (r := 65) rfl dd_M_isLate_1 ?_
  refine mj_bipush (pc := 4) (v := (45 : Int32)) (by decide) dd_M_isLate_4 ?_
  refine mj_ialdK (pc := 6) (j := 45) sh_65 (by decide) rfl dd_M_isLate_6 ?_
  refine mj_iload_n (pc := 7) (i := 1) rfl dd_M_isLate_7 ?_
  refine mj_iadd (pc := 8) dd_M_isLate_8 ?_
  refine mj_sipush (pc := 9) (v := (9999 : Int32)) (by decide) dd_M_isLate_9 ?_
  refine mj_icmp_le (pc := 12) (tgt := 19) dd_M_isLate_12 rfl (fun h1 => ?_) (fun h1 => ?_)
  · refine mj_iconst (pc := 19) (v := (0 : Int32)) (by decide) dd_M_isLate_19 ?_
    exact mj_zret (by decide) dd_M_isLate_20 rfl rfl
  · refine mj_iconst (pc := 15) (v := (1 : Int32)) (by decide) dd_M_isLate_15 ?_
    refine mj_goto (pc := 16) (tgt := 20) dd_M_isLate_16 rfl ?_
    exact mj_zret (by decide) dd_M_isLate_20 rfl rfl
theorem B_M_isLate {x1 : Int32} {M : mj_M} {q : Int32 × mj_M} (h : F_M_isLate x1 M = some q) : q.1 = 0 ∨ q.1 = 1 := by
  unfold F_M_isLate at h
  (repeat' split at h) <;> (cases h; first | exact Or.inl rfl | exact Or.inr rfl)
def F_M_isTooLong (N : Nat) (x1 : Int32) (M : mj_M) : Option (Int32 × mj_M) :=
    (F_M_nightsNow N (M 65 42) x1 M).bind (fun q1 =>
     (F_M_isLate (mj_max (1 : Int32) q1.1) q1.2).bind (fun q2 =>
     some (q2.1, q2.2)))
set_option maxRecDepth 20000 in
theorem T_M_isTooLong {g : mj_G} (N : Nat) : ∀ d, 7 ≤ d → ∀ (x1 : Int32) (M : mj_M), mj_Mt g (mj_qI g) d y_M_isTooLong c_M_isTooLong 2 (some .boolean) [.ref 48, .int x1] M (F_M_isTooLong N x1 M) := by
  intro d hd x1 M
  obtain ⟨e, rfl⟩ : ∃ e, d = e + 1 := ⟨d - 1, by omega⟩
  have he : 6 ≤ e := by omega
  refine mj_met (by decide +kernel) (Nat.le_of_ble_eq_true rfl) ?_
  unfold F_M_isTooLong
  refine mj_L (L' := [(0, .ref 48), (1, .int x1)]) [0, 1] rfl ?_
  refine mj_aload_n (pc := 0) (i := 0) rfl dd_M_isTooLong_0 ?_
  refine mj_iconst (pc := 1) (v := (1 : Int32)) (by decide) dd_M_isTooLong_1 ?_
  refine mj_aload_n (pc := 2) (i := 0) rfl dd_M_isTooLong_2 ?_
  refine mj_aload_n (pc := 3) (i := 0) rfl dd_M_isTooLong_3 ?_
  refine mj_getR (pc := 4) (b := 48) (k := 27) qf_M_58 sh_48 cl_12 rfl (by decide) (r := 65) rfl dd_M_isTooLong_4 ?_
  refine mj_bipush (pc := 7) (v := (42 : Int32)) (by decide) dd_M_isTooLong_7 ?_
  refine mj_ialdK (pc := 9) (j := 42) sh_65 (by decide) rfl dd_M_isTooLong_9 ?_
  refine mj_iload_n (pc := 10) (i := 1) rfl dd_M_isTooLong_10 ?_
  refine mj_callVI (pc := 11) (idx := 284) (b := 48) (As := [.int (M 65 42), .int x1]) (st := [.int (1 : Int32), .ref 48]) sh_48 cl_12 ev_M_nightsNow ql_M_284 rfl (Nat.le_of_ble_eq_true rfl) (T_M_nightsNow (g := g) N e (by omega) (M 65 42) x1 M) dd_M_isTooLong_11 (fun q1 hq1 => ?_)
  refine mj_mmax (pc := 14) (idx := 275) qm_M_275 (Nat.le_of_ble_eq_true rfl) dd_M_isTooLong_14 ?_
  refine mj_callVI (pc := 17) (idx := 312) (b := 48) (As := [.int (mj_max (1 : Int32) q1.1)]) (st := []) sh_48 cl_12 ev_M_isLate ql_M_312 rfl (Nat.le_of_ble_eq_true rfl) (T_M_isLate (g := g) e (by omega) (mj_max (1 : Int32) q1.1) q1.2) dd_M_isTooLong_17 (fun q2 hq2 => ?_)
  exact mj_zret (B_M_isLate hq2) dd_M_isTooLong_20 rfl rfl
def F_M_isRefused_b15 (x1 : Int32) (M : mj_M) : Option (Int32 × mj_M) :=
    if x1 = (-1 : Int32) then
     (some ((0 : Int32), M))
     else
     (some ((1 : Int32), M))
set_option maxRecDepth 20000 in
theorem T_M_isRefused_b15 {g : mj_G} (e : Nat) (he : 0 ≤ e) (x1 : Int32) (M : mj_M) : mj_X g (mj_qI g) "WinterTellersModel" c_M_isRefused 2 (some .boolean) e 15 [(1, .int x1)] [] M (F_M_isRefused_b15 x1 M) := by
  unfold F_M_isRefused_b15
  refine mj_iload_n (pc := 15) (i := 1) rfl dd_M_isRefused_15 ?_
  refine mj_iconst (pc := 16) (v := (-1 : Int32)) (by decide) dd_M_isRefused_16 ?_
  refine mj_icmp_eq (pc := 17) (tgt := 24) dd_M_isRefused_17 rfl (fun h3 => ?_) (fun h3 => ?_)
  · refine mj_iconst (pc := 24) (v := (0 : Int32)) (by decide) dd_M_isRefused_24 ?_
    exact mj_zret (by decide) dd_M_isRefused_25 rfl rfl
  · refine mj_iconst (pc := 20) (v := (1 : Int32)) (by decide) dd_M_isRefused_20 ?_
    refine mj_goto (pc := 21) (tgt := 25) dd_M_isRefused_21 rfl ?_
    exact mj_zret (by decide) dd_M_isRefused_25 rfl rfl
def F_M_isRefused (x1 : Int32) (M : mj_M) : Option (Int32 × mj_M) :=
    if x1 = (-1 : Int32) then
     (F_M_isRefused_b15 x1 M)
     else
     (mj_ck x1 5 (
     mj_ck x1 5 (mj_lt (mj_u M 66 x1.toNatClampNeg ((M 66 x1.toNatClampNeg) + (1 : Int32))) (fun M2 =>
     F_M_isRefused_b15 x1 M2))))
set_option maxRecDepth 20000 in
theorem T_M_isRefused {g : mj_G} : ∀ d, 1 ≤ d → ∀ (x1 : Int32) (M : mj_M), mj_Mt g (mj_qI g) d y_M_isRefused c_M_isRefused 2 (some .boolean) [.ref 48, .int x1] M (F_M_isRefused x1 M) := by
  intro d hd x1 M
  obtain ⟨e, rfl⟩ : ∃ e, d = e + 1 := ⟨d - 1, by omega⟩
  have he : 0 ≤ e := by omega
  refine mj_met (by decide +kernel) (Nat.le_of_ble_eq_true rfl) ?_
  unfold F_M_isRefused
  refine mj_L (L' := [(0, .ref 48), (1, .int x1)]) [0, 1] rfl ?_
  refine mj_iload_n (pc := 0) (i := 1) rfl dd_M_isRefused_0 ?_
  refine mj_iconst (pc := 1) (v := (-1 : Int32)) (by decide) dd_M_isRefused_1 ?_
  refine mj_icmp_eq (pc := 2) (tgt := 15) dd_M_isRefused_2 rfl (fun h1 => ?_) (fun h1 => ?_)
  · refine mj_L (L' := [(1, .int x1)]) [1] rfl ?_
    exact T_M_isRefused_b15 (g := g) e he x1 M
  · refine mj_aload_n (pc := 5) (i := 0) rfl dd_M_isRefused_5 ?_
    refine mj_getR (pc := 6) (b := 48) (k := 28) qf_M_61 sh_48 cl_12 rfl (by decide) (r := 66) rfl dd_M_isRefused_6 ?_
    refine mj_iload_n (pc := 9) (i := 1) rfl dd_M_isRefused_9 ?_
    refine mj_dup2 (pc := 10) rfl rfl dd_M_isRefused_10 ?_
    refine mj_iald (pc := 11) sh_66 dd_M_isRefused_11 ?_
    refine mj_iconst (pc := 12) (v := (1 : Int32)) (by decide) dd_M_isRefused_12 ?_
    refine mj_iadd (pc := 13) dd_M_isRefused_13 ?_
    refine mj_iast (pc := 14) sh_66 dd_M_isRefused_14 (fun M2 _ => ?_)
    refine mj_L (L' := [(1, .int x1)]) [1] rfl ?_
    exact T_M_isRefused_b15 (g := g) e he x1 M2
def F_M_keep_b54 (N : Nat) : Nat → Int32 → mj_M → Option (mj_M)
  | 0, _, _ => none
  | n + 1, x1, M =>
    if (229 : Int32) ≤ x1 then
     (mj_lt (mj_u M 48 32 ((M 48 32) + (1 : Int32))) (fun M3 =>
     some M3))
     else
     (mj_ck x1 229 (
     mj_ck (((229 : Int32) * (M 48 32)) + x1) 9160 (mj_lt (mj_u M 67 (((229 : Int32) * (M 48 32)) + x1).toNatClampNeg (M 65 x1.toNatClampNeg)) (fun M4 =>
     F_M_keep_b54 N n (x1 + (1 : Int32)) M4))))
set_option maxRecDepth 20000 in
theorem T_M_keep_b54 {g : mj_G} (N : Nat) (e : Nat) (he : 0 ≤ e) : ∀ (n : Nat) (x1 : Int32) (M : mj_M), mj_X g (mj_qV g) "WinterTellersModel" c_M_keep 2 none e 54 [(0, .ref 48), (1, .int x1)] [] M (F_M_keep_b54 N n x1 M) := by
  intro n
  induction n with
  | zero => intro x1 M; exact mj_none
  | succ n ih =>
    intro x1 M
    rw [F_M_keep_b54]
    refine mj_iload_n (pc := 54) (i := 1) rfl dd_M_keep_54 ?_
    refine mj_sipush (pc := 55) (v := (229 : Int32)) (by decide) dd_M_keep_55 ?_
    refine mj_icmp_ge (pc := 58) (tgt := 88) dd_M_keep_58 rfl (fun h2 => ?_) (fun h2 => ?_)
    · refine mj_aload_n (pc := 88) (i := 0) rfl dd_M_keep_88 ?_
      refine mj_dup (pc := 89) rfl dd_M_keep_89 ?_
      refine mj_getI (pc := 90) (b := 48) (k := 32) qf_M_257 sh_48 cl_12 rfl (by decide) rfl dd_M_keep_90 ?_
      refine mj_iconst (pc := 93) (v := (1 : Int32)) (by decide) dd_M_keep_93 ?_
      refine mj_iadd (pc := 94) dd_M_keep_94 ?_
      refine mj_putI (pc := 95) (b := 48) (k := 32) qf_M_257 sh_48 cl_12 rfl (by decide) (by decide) rfl rfl rfl dd_M_keep_95 (fun M3 _ => ?_)
      exact mj_vret dd_M_keep_98 rfl rfl
    · refine mj_aload_n (pc := 61) (i := 0) rfl dd_M_keep_61 ?_
      refine mj_getR (pc := 62) (b := 48) (k := 31) qf_M_71 sh_48 cl_12 rfl (by decide) (r := 67) rfl dd_M_keep_62 ?_
      refine mj_sipush (pc := 65) (v := (229 : Int32)) (by decide) dd_M_keep_65 ?_
      refine mj_aload_n (pc := 68) (i := 0) rfl dd_M_keep_68 ?_
      refine mj_getI (pc := 69) (b := 48) (k := 32) qf_M_257 sh_48 cl_12 rfl (by decide) rfl dd_M_keep_69 ?_
      refine mj_imul (pc := 72) dd_M_keep_72 ?_
      refine mj_iload_n (pc := 73) (i := 1) rfl dd_M_keep_73 ?_
      refine mj_iadd (pc := 74) dd_M_keep_74 ?_
      refine mj_aload_n (pc := 75) (i := 0) rfl dd_M_keep_75 ?_
      refine mj_getR (pc := 76) (b := 48) (k := 27) qf_M_58 sh_48 cl_12 rfl (by decide) (r := 65) rfl dd_M_keep_76 ?_
      refine mj_iload_n (pc := 79) (i := 1) rfl dd_M_keep_79 ?_
      refine mj_iald (pc := 80) sh_65 dd_M_keep_80 ?_
      refine mj_iast (pc := 81) sh_67 dd_M_keep_81 (fun M4 _ => ?_)
      refine mj_iinc (pc := 82) (i := 1) (z := (1 : Int32)) rfl (by decide) (by decide) dd_M_keep_82 ?_
      refine mj_L (L' := [(1, .int (x1 + (1 : Int32))), (0, .ref 48)]) [0, 1] rfl ?_
      refine mj_goto (pc := 85) (tgt := 54) dd_M_keep_85 rfl ?_
      refine mj_L (L' := [(0, .ref 48), (1, .int (x1 + (1 : Int32)))]) [1, 0] rfl ?_
      exact ih (x1 + (1 : Int32)) M4
def F_M_keep_b13 (N : Nat) : Nat → Int32 → mj_M → Option (mj_M)
  | 0, _, _ => none
  | n + 1, x1, M =>
    if (9160 : Int32) ≤ x1 then
     (mj_lt (mj_u M 48 32 ((M 48 32) - (1 : Int32))) (fun M6 =>
     F_M_keep_b54 N N (0 : Int32) M6))
     else
     (mj_ck x1 9160 (
     mj_ck (x1 - (229 : Int32)) 9160 (mj_lt (mj_u M 67 (x1 - (229 : Int32)).toNatClampNeg (M 67 x1.toNatClampNeg)) (fun M7 =>
     F_M_keep_b13 N n (x1 + (1 : Int32)) M7))))
set_option maxRecDepth 20000 in
theorem T_M_keep_b13 {g : mj_G} (N : Nat) (e : Nat) (he : 0 ≤ e) : ∀ (n : Nat) (x1 : Int32) (M : mj_M), mj_X g (mj_qV g) "WinterTellersModel" c_M_keep 2 none e 13 [(0, .ref 48), (1, .int x1)] [] M (F_M_keep_b13 N n x1 M) := by
  intro n
  induction n with
  | zero => intro x1 M; exact mj_none
  | succ n ih =>
    intro x1 M
    rw [F_M_keep_b13]
    refine mj_iload_n (pc := 13) (i := 1) rfl dd_M_keep_13 ?_
    refine mj_sipush (pc := 14) (v := (9160 : Int32)) (by decide) dd_M_keep_14 ?_
    refine mj_icmp_ge (pc := 17) (tgt := 42) dd_M_keep_17 rfl (fun h5 => ?_) (fun h5 => ?_)
    · refine mj_aload_n (pc := 42) (i := 0) rfl dd_M_keep_42 ?_
      refine mj_dup (pc := 43) rfl dd_M_keep_43 ?_
      refine mj_getI (pc := 44) (b := 48) (k := 32) qf_M_257 sh_48 cl_12 rfl (by decide) rfl dd_M_keep_44 ?_
      refine mj_iconst (pc := 47) (v := (1 : Int32)) (by decide) dd_M_keep_47 ?_
      refine mj_isub (pc := 48) dd_M_keep_48 ?_
      refine mj_putI (pc := 49) (b := 48) (k := 32) qf_M_257 sh_48 cl_12 rfl (by decide) (by decide) rfl rfl rfl dd_M_keep_49 (fun M6 _ => ?_)
      refine mj_iconst (pc := 52) (v := (0 : Int32)) (by decide) dd_M_keep_52 ?_
      refine mj_istore_n (pc := 53) (by decide) dd_M_keep_53 ?_
      refine mj_L (L' := [(1, .int (0 : Int32)), (0, .ref 48)]) [0, 1] rfl ?_
      refine mj_L (L' := [(0, .ref 48), (1, .int (0 : Int32))]) [1, 0] rfl ?_
      exact T_M_keep_b54 (g := g) N e he N (0 : Int32) M6
    · refine mj_aload_n (pc := 20) (i := 0) rfl dd_M_keep_20 ?_
      refine mj_getR (pc := 21) (b := 48) (k := 31) qf_M_71 sh_48 cl_12 rfl (by decide) (r := 67) rfl dd_M_keep_21 ?_
      refine mj_iload_n (pc := 24) (i := 1) rfl dd_M_keep_24 ?_
      refine mj_sipush (pc := 25) (v := (229 : Int32)) (by decide) dd_M_keep_25 ?_
      refine mj_isub (pc := 28) dd_M_keep_28 ?_
      refine mj_aload_n (pc := 29) (i := 0) rfl dd_M_keep_29 ?_
      refine mj_getR (pc := 30) (b := 48) (k := 31) qf_M_71 sh_48 cl_12 rfl (by decide) (r := 67) rfl dd_M_keep_30 ?_
      refine mj_iload_n (pc := 33) (i := 1) rfl dd_M_keep_33 ?_
      refine mj_iald (pc := 34) sh_67 dd_M_keep_34 ?_
      refine mj_iast (pc := 35) sh_67 dd_M_keep_35 (fun M7 _ => ?_)
      refine mj_iinc (pc := 36) (i := 1) (z := (1 : Int32)) rfl (by decide) (by decide) dd_M_keep_36 ?_
      refine mj_L (L' := [(1, .int (x1 + (1 : Int32))), (0, .ref 48)]) [0, 1] rfl ?_
      refine mj_goto (pc := 39) (tgt := 13) dd_M_keep_39 rfl ?_
      refine mj_L (L' := [(0, .ref 48), (1, .int (x1 + (1 : Int32)))]) [1, 0] rfl ?_
      exact ih (x1 + (1 : Int32)) M7
def F_M_keep (N : Nat) (M : mj_M) : Option (mj_M) :=
    if (M 48 32) = (40 : Int32) then
     (F_M_keep_b13 N N (229 : Int32) M)
     else
     (F_M_keep_b54 N N (0 : Int32) M)
set_option maxRecDepth 20000 in
theorem T_M_keep {g : mj_G} (N : Nat) : ∀ d, 1 ≤ d → ∀ (M : mj_M), mj_Mt g (mj_qV g) d y_M_keep c_M_keep 2 none [.ref 48] M (F_M_keep N M) := by
  intro d hd M
  obtain ⟨e, rfl⟩ : ∃ e, d = e + 1 := ⟨d - 1, by omega⟩
  have he : 0 ≤ e := by omega
  refine mj_met (by decide +kernel) (Nat.le_of_ble_eq_true rfl) ?_
  unfold F_M_keep
  refine mj_L (L' := [(0, .ref 48)]) [0] rfl ?_
  refine mj_aload_n (pc := 0) (i := 0) rfl dd_M_keep_0 ?_
  refine mj_getI (pc := 1) (b := 48) (k := 32) qf_M_257 sh_48 cl_12 rfl (by decide) rfl dd_M_keep_1 ?_
  refine mj_bipush (pc := 4) (v := (40 : Int32)) (by decide) dd_M_keep_4 ?_
  refine mj_icmp_ne (pc := 6) (tgt := 52) dd_M_keep_6 rfl (fun h1 => ?_) (fun h1 => ?_)
  · refine mj_sipush (pc := 9) (v := (229 : Int32)) (by decide) dd_M_keep_9 ?_
    refine mj_istore_n (pc := 12) (by decide) dd_M_keep_12 ?_
    refine mj_L (L' := [(1, .int (229 : Int32)), (0, .ref 48)]) [0, 1] rfl ?_
    refine mj_L (L' := [(0, .ref 48), (1, .int (229 : Int32))]) [1, 0] rfl ?_
    exact T_M_keep_b13 (g := g) N e he N (229 : Int32) M
  · refine mj_iconst (pc := 52) (v := (0 : Int32)) (by decide) dd_M_keep_52 ?_
    refine mj_istore_n (pc := 53) (by decide) dd_M_keep_53 ?_
    refine mj_L (L' := [(1, .int (0 : Int32)), (0, .ref 48)]) [0, 1] rfl ?_
    refine mj_L (L' := [(0, .ref 48), (1, .int (0 : Int32))]) [1, 0] rfl ?_
    exact T_M_keep_b54 (g := g) N e he N (0 : Int32) M
def F_M_tellNow_b95 (N : Nat) (x3 : Int32) (s1 : Int32) (s2 : Int32) (M : mj_M) : Option (Int32 × mj_M) :=
    mj_ck s1 229 (mj_lt (mj_u M 65 s1.toNatClampNeg s2) (fun M7 =>
     if x3 = (0) then
     (mj_lt (mj_u M7 65 47 ((M7 65 47) + (1 : Int32))) (fun M10 =>
     some (x3, M10)))
     else
     (mj_lt (mj_u M7 65 47 ((M7 65 47) + (0 : Int32))) (fun M9 =>
     some (x3, M9)))))
set_option maxRecDepth 20000 in
theorem T_M_tellNow_b95 {g : mj_G} (N : Nat) (e : Nat) (he : 6 ≤ e) (x3 : Int32) (s1 : Int32) (s2 : Int32) (M : mj_M) : mj_X g (mj_qI g) "WinterTellersModel" c_M_tellNow 4 (some .int) e 95 [(0, .ref 48), (3, .int x3)] [.int s2, .int s1, .ref 65] M (F_M_tellNow_b95 N x3 s1 s2 M) := by
  unfold F_M_tellNow_b95
  refine mj_iast (pc := 95) sh_65 dd_M_tellNow_95 (fun M7 _ => ?_)
  refine mj_aload_n (pc := 96) (i := 0) rfl dd_M_tellNow_96 ?_
  refine mj_getR (pc := 97) (b := 48) (k := 27) qf_M_58 sh_48 cl_12 rfl (by decide) (r := 65) rfl dd_M_tellNow_97 ?_
  refine mj_bipush (pc := 100) (v := (47 : Int32)) (by decide) dd_M_tellNow_100 ?_
  refine mj_dup2 (pc := 102) rfl rfl dd_M_tellNow_102 ?_
  refine mj_ialdK (pc := 103) (j := 47) sh_65 (by decide) rfl dd_M_tellNow_103 ?_
  refine mj_iload_n (pc := 104) (i := 3) rfl dd_M_tellNow_104 ?_
  refine mj_if_ne (pc := 105) (tgt := 112) dd_M_tellNow_105 rfl (fun h8 => ?_) (fun h8 => ?_)
  · refine mj_iconst (pc := 108) (v := (1 : Int32)) (by decide) dd_M_tellNow_108 ?_
    refine mj_goto (pc := 109) (tgt := 113) dd_M_tellNow_109 rfl ?_
    refine mj_iadd (pc := 113) dd_M_tellNow_113 ?_
    refine mj_iastK (pc := 114) (j := 47) sh_65 (by decide) rfl dd_M_tellNow_114 (fun M10 _ => ?_)
    refine mj_iload_n (pc := 115) (i := 3) rfl dd_M_tellNow_115 ?_
    exact mj_iret dd_M_tellNow_116 rfl rfl
  · refine mj_iconst (pc := 112) (v := (0 : Int32)) (by decide) dd_M_tellNow_112 ?_
    refine mj_iadd (pc := 113) dd_M_tellNow_113 ?_
    refine mj_iastK (pc := 114) (j := 47) sh_65 (by decide) rfl dd_M_tellNow_114 (fun M9 _ => ?_)
    refine mj_iload_n (pc := 115) (i := 3) rfl dd_M_tellNow_115 ?_
    exact mj_iret dd_M_tellNow_116 rfl rfl
def F_M_tellNow (N : Nat) (x1 : Int32) (M : mj_M) : Option (Int32 × mj_M) :=
    mj_lt (M 65 42) (fun v1 =>
     (F_M_nightsNow N v1 x1 M).bind (fun q2 =>
     (F_M_heardOf v1 x1 q2.2).bind (fun q3 =>
     mj_ck (((0 : Int32) + ((6 : Int32) * v1)) + x1) 229 (mj_lt (mj_u q3.2 65 (((0 : Int32) + ((6 : Int32) * v1)) + x1).toNatClampNeg (mj_min (99 : Int32) (q3.1 + (1 : Int32)))) (fun M4 =>
     mj_lt (mj_u M4 65 46 ((M4 65 46) + q2.1)) (fun M5 =>
     if q2.1 = (0) then
     (F_M_tellNow_b95 N q2.1 (44 : Int32) (mj_max (0 : Int32) ((M5 65 44) - (1 : Int32))) M5)
     else
     (F_M_tellNow_b95 N q2.1 (44 : Int32) (mj_min (999 : Int32) ((M5 65 44) + (q2.1 / (3 : Int32)))) M5)))))))
set_option maxRecDepth 20000 in
theorem T_M_tellNow {g : mj_G} (N : Nat) : ∀ d, 7 ≤ d → ∀ (x1 : Int32) (M : mj_M), mj_Mt g (mj_qI g) d y_M_tellNow c_M_tellNow 4 (some .int) [.ref 48, .int x1] M (F_M_tellNow N x1 M) := by
  intro d hd x1 M
  obtain ⟨e, rfl⟩ : ∃ e, d = e + 1 := ⟨d - 1, by omega⟩
  have he : 6 ≤ e := by omega
  refine mj_met (by decide +kernel) (Nat.le_of_ble_eq_true rfl) ?_
  unfold F_M_tellNow
  refine mj_L (L' := [(0, .ref 48), (1, .int x1)]) [0, 1] rfl ?_
  refine mj_aload_n (pc := 0) (i := 0) rfl dd_M_tellNow_0 ?_
  refine mj_getR (pc := 1) (b := 48) (k := 27) qf_M_58 sh_48 cl_12 rfl (by decide) (r := 65) rfl dd_M_tellNow_1 ?_
  refine mj_bipush (pc := 4) (v := (42 : Int32)) (by decide) dd_M_tellNow_4 ?_
  refine mj_ialdK (pc := 6) (j := 42) sh_65 (by decide) rfl dd_M_tellNow_6 ?_
  refine mj_istore_nL (pc := 7) (by decide) dd_M_tellNow_7 (fun v1 _ => ?_)
  refine mj_L (L' := [(2, .int v1), (0, .ref 48), (1, .int x1)]) [0, 1, 2] rfl ?_
  refine mj_aload_n (pc := 8) (i := 0) rfl dd_M_tellNow_8 ?_
  refine mj_iload_n (pc := 9) (i := 2) rfl dd_M_tellNow_9 ?_
  refine mj_iload_n (pc := 10) (i := 1) rfl dd_M_tellNow_10 ?_
  refine mj_callVI (pc := 11) (idx := 284) (b := 48) (As := [.int v1, .int x1]) (st := []) sh_48 cl_12 ev_M_nightsNow ql_M_284 rfl (Nat.le_of_ble_eq_true rfl) (T_M_nightsNow (g := g) N e (by omega) v1 x1 M) dd_M_tellNow_11 (fun q2 hq2 => ?_)
  refine mj_istore_n (pc := 14) (by decide) dd_M_tellNow_14 ?_
  refine mj_L (L' := [(3, .int q2.1), (2, .int v1), (0, .ref 48), (1, .int x1)]) [0, 1, 2, 3] rfl ?_
  refine mj_aload_n (pc := 15) (i := 0) rfl dd_M_tellNow_15 ?_
  refine mj_getR (pc := 16) (b := 48) (k := 27) qf_M_58 sh_48 cl_12 rfl (by decide) (r := 65) rfl dd_M_tellNow_16 ?_
  refine mj_iconst (pc := 19) (v := (0 : Int32)) (by decide) dd_M_tellNow_19 ?_
  refine mj_bipush (pc := 20) (v := (6 : Int32)) (by decide) dd_M_tellNow_20 ?_
  refine mj_iload_n (pc := 22) (i := 2) rfl dd_M_tellNow_22 ?_
  refine mj_imul (pc := 23) dd_M_tellNow_23 ?_
  refine mj_iadd (pc := 24) dd_M_tellNow_24 ?_
  refine mj_iload_n (pc := 25) (i := 1) rfl dd_M_tellNow_25 ?_
  refine mj_iadd (pc := 26) dd_M_tellNow_26 ?_
  refine mj_bipush (pc := 27) (v := (99 : Int32)) (by decide) dd_M_tellNow_27 ?_
  refine mj_aload_n (pc := 29) (i := 0) rfl dd_M_tellNow_29 ?_
  refine mj_iload_n (pc := 30) (i := 2) rfl dd_M_tellNow_30 ?_
  refine mj_iload_n (pc := 31) (i := 1) rfl dd_M_tellNow_31 ?_
  refine mj_callVI (pc := 32) (idx := 277) (b := 48) (As := [.int v1, .int x1]) (st := [.int (99 : Int32), .int (((0 : Int32) + ((6 : Int32) * v1)) + x1), .ref 65]) sh_48 cl_12 ev_M_heardOf ql_M_277 rfl (Nat.le_of_ble_eq_true rfl) (T_M_heardOf (g := g) e (by omega) v1 x1 q2.2) dd_M_tellNow_32 (fun q3 hq3 => ?_)
  refine mj_iconst (pc := 35) (v := (1 : Int32)) (by decide) dd_M_tellNow_35 ?_
  refine mj_iadd (pc := 36) dd_M_tellNow_36 ?_
  refine mj_mmin (pc := 37) (idx := 273) qm_M_273 (Nat.le_of_ble_eq_true rfl) dd_M_tellNow_37 ?_
  refine mj_iast (pc := 40) sh_65 dd_M_tellNow_40 (fun M4 _ => ?_)
  refine mj_aload_n (pc := 41) (i := 0) rfl dd_M_tellNow_41 ?_
  refine mj_getR (pc := 42) (b := 48) (k := 27) qf_M_58 sh_48 cl_12 rfl (by decide) (r := 65) rfl dd_M_tellNow_42 ?_
  refine mj_bipush (pc := 45) (v := (46 : Int32)) (by decide) dd_M_tellNow_45 ?_
  refine mj_dup2 (pc := 47) rfl rfl dd_M_tellNow_47 ?_
  refine mj_ialdK (pc := 48) (j := 46) sh_65 (by decide) rfl dd_M_tellNow_48 ?_
  refine mj_iload_n (pc := 49) (i := 3) rfl dd_M_tellNow_49 ?_
  refine mj_iadd (pc := 50) dd_M_tellNow_50 ?_
  refine mj_iastK (pc := 51) (j := 46) sh_65 (by decide) rfl dd_M_tellNow_51 (fun M5 _ => ?_)
  refine mj_aload_n (pc := 52) (i := 0) rfl dd_M_tellNow_52 ?_
  refine mj_getR (pc := 53) (b := 48) (k := 27) qf_M_58 sh_48 cl_12 rfl (by decide) (r := 65) rfl dd_M_tellNow_53 ?_
  refine mj_bipush (pc := 56) (v := (44 : Int32)) (by decide) dd_M_tellNow_56 ?_
  refine mj_iload_n (pc := 58) (i := 3) rfl dd_M_tellNow_58 ?_
  refine mj_if_ne (pc := 59) (tgt := 78) dd_M_tellNow_59 rfl (fun h6 => ?_) (fun h6 => ?_)
  · refine mj_iconst (pc := 62) (v := (0 : Int32)) (by decide) dd_M_tellNow_62 ?_
    refine mj_aload_n (pc := 63) (i := 0) rfl dd_M_tellNow_63 ?_
    refine mj_getR (pc := 64) (b := 48) (k := 27) qf_M_58 sh_48 cl_12 rfl (by decide) (r := 65) rfl dd_M_tellNow_64 ?_
    refine mj_bipush (pc := 67) (v := (44 : Int32)) (by decide) dd_M_tellNow_67 ?_
    refine mj_ialdK (pc := 69) (j := 44) sh_65 (by decide) rfl dd_M_tellNow_69 ?_
    refine mj_iconst (pc := 70) (v := (1 : Int32)) (by decide) dd_M_tellNow_70 ?_
    refine mj_isub (pc := 71) dd_M_tellNow_71 ?_
    refine mj_mmax (pc := 72) (idx := 275) qm_M_275 (Nat.le_of_ble_eq_true rfl) dd_M_tellNow_72 ?_
    refine mj_goto (pc := 75) (tgt := 95) dd_M_tellNow_75 rfl ?_
    refine mj_L (L' := [(0, .ref 48), (3, .int q2.1)]) [2, 0] rfl ?_
    exact T_M_tellNow_b95 (g := g) N e he q2.1 (44 : Int32) (mj_max (0 : Int32) ((M5 65 44) - (1 : Int32))) M5
  · refine mj_sipush (pc := 78) (v := (999 : Int32)) (by decide) dd_M_tellNow_78 ?_
    refine mj_aload_n (pc := 81) (i := 0) rfl dd_M_tellNow_81 ?_
    refine mj_getR (pc := 82) (b := 48) (k := 27) qf_M_58 sh_48 cl_12 rfl (by decide) (r := 65) rfl dd_M_tellNow_82 ?_
    refine mj_bipush (pc := 85) (v := (44 : Int32)) (by decide) dd_M_tellNow_85 ?_
    refine mj_ialdK (pc := 87) (j := 44) sh_65 (by decide) rfl dd_M_tellNow_87 ?_
    refine mj_iload_n (pc := 88) (i := 3) rfl dd_M_tellNow_88 ?_
    refine mj_iconst (pc := 89) (v := (3 : Int32)) (by decide) dd_M_tellNow_89 ?_
    refine mj_idivK (pc := 90) (by decide) dd_M_tellNow_90 ?_
    refine mj_iadd (pc := 91) dd_M_tellNow_91 ?_
    refine mj_mmin (pc := 92) (idx := 273) qm_M_273 (Nat.le_of_ble_eq_true rfl) dd_M_tellNow_92 ?_
    refine mj_L (L' := [(0, .ref 48), (3, .int q2.1)]) [2, 0] rfl ?_
    exact T_M_tellNow_b95 (g := g) N e he q2.1 (44 : Int32) (mj_min (999 : Int32) ((M5 65 44) + (q2.1 / (3 : Int32)))) M5
