/-! ===== functions and their proofs ===== -/
def F_CoastReader_read_b119 (N : Nat) (M : mj_M) : Option (Int32 × mj_M) :=
    (F_Tape_fail (M 2 1) M).bind (fun q16 =>
     some (q16 2 3, q16))
set_option maxRecDepth 20000 in
theorem T_CoastReader_read_b119 {g : mj_G} (N : Nat) (e : Nat) (he : 5 ≤ e) (M : mj_M) : mj_X g (mj_qI g) "WinterTellers$CoastReader" c_CoastReader_read 2 (some .int) e 119 [(0, .ref 4)] [] M (F_CoastReader_read_b119 N M) := by
  unfold F_CoastReader_read_b119
  refine mj_aload_n (pc := 119) (i := 0) rfl dd_CoastReader_read_119 ?_
  refine mj_getR (pc := 120) (b := 4) (k := 1) qf_CoastReader_22 sh_4 cl_1 rfl (by decide) (r := 2) rfl dd_CoastReader_read_120 ?_
  refine mj_aload_n (pc := 123) (i := 0) rfl dd_CoastReader_read_123 ?_
  refine mj_getR (pc := 124) (b := 4) (k := 1) qf_CoastReader_22 sh_4 cl_1 rfl (by decide) (r := 2) rfl dd_CoastReader_read_124 ?_
  refine mj_getI (pc := 127) (b := 2) (k := 1) qf_CoastReader_62 sh_2 cl_10 rfl (by decide) rfl dd_CoastReader_read_127 ?_
  refine mj_callVV (pc := 130) (idx := 65) (b := 2) (As := [.int (M 2 1)]) (st := []) sh_2 cl_10 ev_Tape_fail ql_CoastReader_65 rfl (Nat.le_of_ble_eq_true rfl) (T_Tape_fail (g := g) e (by omega) (M 2 1) M) dd_CoastReader_read_130 (fun q16 hq16 => ?_)
  refine mj_aload_n (pc := 133) (i := 0) rfl dd_CoastReader_read_133 ?_
  refine mj_getR (pc := 134) (b := 4) (k := 1) qf_CoastReader_22 sh_4 cl_1 rfl (by decide) (r := 2) rfl dd_CoastReader_read_134 ?_
  refine mj_getI (pc := 137) (b := 2) (k := 3) qf_CoastReader_69 sh_2 cl_10 rfl (by decide) rfl dd_CoastReader_read_137 ?_
  exact mj_iret dd_CoastReader_read_140 rfl rfl
def F_CoastReader_read_b73 (N : Nat) (M : mj_M) : Option (Int32 × mj_M) :=
    (F_Tape_demandEnd N M).bind (fun q12 =>
     if (q12 41 0) < (2 : Int32) then
     (F_CoastReader_read_b119 N q12)
     else
     (if (q12 41 1) < (1 : Int32) then
     (F_CoastReader_read_b119 N q12)
     else
     (if (q12 41 4) < (q12 41 0) then
     (some (q12 2 3, q12))
     else
     (F_CoastReader_read_b119 N q12))))
set_option maxRecDepth 20000 in
theorem T_CoastReader_read_b73 {g : mj_G} (N : Nat) (e : Nat) (he : 5 ≤ e) (M : mj_M) : mj_X g (mj_qI g) "WinterTellers$CoastReader" c_CoastReader_read 2 (some .int) e 73 [(0, .ref 4)] [] M (F_CoastReader_read_b73 N M) := by
  unfold F_CoastReader_read_b73
  refine mj_aload_n (pc := 73) (i := 0) rfl dd_CoastReader_read_73 ?_
  refine mj_getR (pc := 74) (b := 4) (k := 1) qf_CoastReader_22 sh_4 cl_1 rfl (by decide) (r := 2) rfl dd_CoastReader_read_74 ?_
  refine mj_callVV (pc := 77) (idx := 56) (b := 2) (As := []) (st := []) sh_2 cl_10 ev_Tape_demandEnd ql_CoastReader_56 rfl (Nat.le_of_ble_eq_true rfl) (T_Tape_demandEnd (g := g) N e (by omega) M) dd_CoastReader_read_77 (fun q12 hq12 => ?_)
  refine mj_aload_n (pc := 80) (i := 0) rfl dd_CoastReader_read_80 ?_
  refine mj_getR (pc := 81) (b := 4) (k := 0) qf_CoastReader_12 sh_4 cl_1 rfl (by decide) (r := 41) rfl dd_CoastReader_read_81 ?_
  refine mj_getI (pc := 84) (b := 41) (k := 0) qf_CoastReader_31 sh_41 cl_0 rfl (by decide) rfl dd_CoastReader_read_84 ?_
  refine mj_iconst (pc := 87) (v := (2 : Int32)) (by decide) dd_CoastReader_read_87 ?_
  refine mj_icmp_lt (pc := 88) (tgt := 119) dd_CoastReader_read_88 rfl (fun h13 => ?_) (fun h13 => ?_)
  · refine mj_L (L' := [(0, .ref 4)]) [0] rfl ?_
    exact T_CoastReader_read_b119 (g := g) N e he q12
  · refine mj_aload_n (pc := 91) (i := 0) rfl dd_CoastReader_read_91 ?_
    refine mj_getR (pc := 92) (b := 4) (k := 0) qf_CoastReader_12 sh_4 cl_1 rfl (by decide) (r := 41) rfl dd_CoastReader_read_92 ?_
    refine mj_getI (pc := 95) (b := 41) (k := 1) qf_CoastReader_35 sh_41 cl_0 rfl (by decide) rfl dd_CoastReader_read_95 ?_
    refine mj_iconst (pc := 98) (v := (1 : Int32)) (by decide) dd_CoastReader_read_98 ?_
    refine mj_icmp_lt (pc := 99) (tgt := 119) dd_CoastReader_read_99 rfl (fun h14 => ?_) (fun h14 => ?_)
    · refine mj_L (L' := [(0, .ref 4)]) [0] rfl ?_
      exact T_CoastReader_read_b119 (g := g) N e he q12
    · refine mj_aload_n (pc := 102) (i := 0) rfl dd_CoastReader_read_102 ?_
      refine mj_getR (pc := 103) (b := 4) (k := 0) qf_CoastReader_12 sh_4 cl_1 rfl (by decide) (r := 41) rfl dd_CoastReader_read_103 ?_
      refine mj_getI (pc := 106) (b := 41) (k := 4) qf_CoastReader_59 sh_41 cl_0 rfl (by decide) rfl dd_CoastReader_read_106 ?_
      refine mj_aload_n (pc := 109) (i := 0) rfl dd_CoastReader_read_109 ?_
      refine mj_getR (pc := 110) (b := 4) (k := 0) qf_CoastReader_12 sh_4 cl_1 rfl (by decide) (r := 41) rfl dd_CoastReader_read_110 ?_
      refine mj_getI (pc := 113) (b := 41) (k := 0) qf_CoastReader_31 sh_41 cl_0 rfl (by decide) rfl dd_CoastReader_read_113 ?_
      refine mj_icmp_lt (pc := 116) (tgt := 133) dd_CoastReader_read_116 rfl (fun h15 => ?_) (fun h15 => ?_)
      · refine mj_aload_n (pc := 133) (i := 0) rfl dd_CoastReader_read_133 ?_
        refine mj_getR (pc := 134) (b := 4) (k := 1) qf_CoastReader_22 sh_4 cl_1 rfl (by decide) (r := 2) rfl dd_CoastReader_read_134 ?_
        refine mj_getI (pc := 137) (b := 2) (k := 3) qf_CoastReader_69 sh_2 cl_10 rfl (by decide) rfl dd_CoastReader_read_137 ?_
        exact mj_iret dd_CoastReader_read_140 rfl rfl
      · refine mj_L (L' := [(0, .ref 4)]) [0] rfl ?_
        exact T_CoastReader_read_b119 (g := g) N e he q12
def F_CoastReader_read_b44 (N : Nat) : Nat → Int32 → mj_M → Option (Int32 × mj_M)
  | 0, _, _ => none
  | n + 1, x1, M =>
    if (240 : Int32) ≤ x1 then
     (F_CoastReader_read_b73 N M)
     else
     ((F_Tape_takes N (59 : Int32) M).bind (fun q9 =>
     if q9.1 = (0) then
     (F_CoastReader_read_b73 N q9.2)
     else
     ((F_CoastReader_readClause N q9.2).bind (fun q11 =>
     F_CoastReader_read_b44 N n (x1 + (1 : Int32)) q11))))
set_option maxRecDepth 20000 in
theorem T_CoastReader_read_b44 {g : mj_G} (N : Nat) (e : Nat) (he : 5 ≤ e) : ∀ (n : Nat) (x1 : Int32) (M : mj_M), mj_X g (mj_qI g) "WinterTellers$CoastReader" c_CoastReader_read 2 (some .int) e 44 [(0, .ref 4), (1, .int x1)] [] M (F_CoastReader_read_b44 N n x1 M) := by
  intro n
  induction n with
  | zero => intro x1 M; exact mj_none
  | succ n ih =>
    intro x1 M
    rw [F_CoastReader_read_b44]
    refine mj_iload_n (pc := 44) (i := 1) rfl dd_CoastReader_read_44 ?_
    refine mj_sipush (pc := 45) (v := (240 : Int32)) (by decide) dd_CoastReader_read_45 ?_
    refine mj_icmp_ge (pc := 48) (tgt := 73) dd_CoastReader_read_48 rfl (fun h8 => ?_) (fun h8 => ?_)
    · refine mj_L (L' := [(0, .ref 4)]) [0] rfl ?_
      exact T_CoastReader_read_b73 (g := g) N e he M
    · refine mj_aload_n (pc := 51) (i := 0) rfl dd_CoastReader_read_51 ?_
      refine mj_getR (pc := 52) (b := 4) (k := 1) qf_CoastReader_22 sh_4 cl_1 rfl (by decide) (r := 2) rfl dd_CoastReader_read_52 ?_
      refine mj_bipush (pc := 55) (v := (59 : Int32)) (by decide) dd_CoastReader_read_55 ?_
      refine mj_callVI (pc := 57) (idx := 52) (b := 2) (As := [.int (59 : Int32)]) (st := []) sh_2 cl_10 ev_Tape_takes ql_CoastReader_52 rfl (Nat.le_of_ble_eq_true rfl) (T_Tape_takes (g := g) N e (by omega) (59 : Int32) M) dd_CoastReader_read_57 (fun q9 hq9 => ?_)
      refine mj_if_eq (pc := 60) (tgt := 73) dd_CoastReader_read_60 rfl (fun h10 => ?_) (fun h10 => ?_)
      · refine mj_L (L' := [(0, .ref 4)]) [0] rfl ?_
        exact T_CoastReader_read_b73 (g := g) N e he q9.2
      · refine mj_aload_n (pc := 63) (i := 0) rfl dd_CoastReader_read_63 ?_
        refine mj_callVV (pc := 64) (idx := 49) (b := 4) (As := []) (st := []) sh_4 cl_1 ev_CoastReader_readClause ql_CoastReader_49 rfl (Nat.le_of_ble_eq_true rfl) (T_CoastReader_readClause (g := g) N e (by omega) q9.2) dd_CoastReader_read_64 (fun q11 hq11 => ?_)
        refine mj_iinc (pc := 67) (i := 1) (z := (1 : Int32)) rfl (by decide) (by decide) dd_CoastReader_read_67 ?_
        refine mj_L (L' := [(1, .int (x1 + (1 : Int32))), (0, .ref 4)]) [0, 1] rfl ?_
        refine mj_goto (pc := 70) (tgt := 44) dd_CoastReader_read_70 rfl ?_
        refine mj_L (L' := [(0, .ref 4), (1, .int (x1 + (1 : Int32)))]) [1, 0] rfl ?_
        exact ih (x1 + (1 : Int32)) q11
def F_CoastReader_read (N : Nat) (M : mj_M) : Option (Int32 × mj_M) :=
    (F_Tape_rewind M).bind (fun q1 =>
     mj_lt (mj_u q1 41 0 (0 : Int32)) (fun M2 =>
     mj_lt (mj_u M2 41 1 (0 : Int32)) (fun M3 =>
     mj_lt (mj_u M3 4 3 (0 : Int32)) (fun M4 =>
     (F_CoastReader_takeItemsWithout (0 : Int32) (4 : Int32) M4).bind (fun q5 =>
     (F_CoastReader_keepRules q5).bind (fun q6 =>
     (F_CoastReader_readClause N q6).bind (fun q7 =>
     F_CoastReader_read_b44 N N (0 : Int32) q7)))))))
set_option maxRecDepth 20000 in
theorem T_CoastReader_read {g : mj_G} (N : Nat) : ∀ d, 6 ≤ d → ∀ (M : mj_M), mj_Mt g (mj_qI g) d y_CoastReader_read c_CoastReader_read 2 (some .int) [.ref 4] M (F_CoastReader_read N M) := by
  intro d hd M
  obtain ⟨e, rfl⟩ : ∃ e, d = e + 1 := ⟨d - 1, by omega⟩
  have he : 5 ≤ e := by omega
  refine mj_met (by decide +kernel) (Nat.le_of_ble_eq_true rfl) ?_
  unfold F_CoastReader_read
  refine mj_L (L' := [(0, .ref 4)]) [0] rfl ?_
  refine mj_aload_n (pc := 0) (i := 0) rfl dd_CoastReader_read_0 ?_
  refine mj_getR (pc := 1) (b := 4) (k := 1) qf_CoastReader_22 sh_4 cl_1 rfl (by decide) (r := 2) rfl dd_CoastReader_read_1 ?_
  refine mj_callVV (pc := 4) (idx := 26) (b := 2) (As := []) (st := []) sh_2 cl_10 ev_Tape_rewind ql_CoastReader_26 rfl (Nat.le_of_ble_eq_true rfl) (T_Tape_rewind (g := g) e (by omega) M) dd_CoastReader_read_4 (fun q1 hq1 => ?_)
  refine mj_aload_n (pc := 7) (i := 0) rfl dd_CoastReader_read_7 ?_
  refine mj_getR (pc := 8) (b := 4) (k := 0) qf_CoastReader_12 sh_4 cl_1 rfl (by decide) (r := 41) rfl dd_CoastReader_read_8 ?_
  refine mj_iconst (pc := 11) (v := (0 : Int32)) (by decide) dd_CoastReader_read_11 ?_
  refine mj_putI (pc := 12) (b := 41) (k := 0) qf_CoastReader_31 sh_41 cl_0 rfl (by decide) (by decide) rfl rfl rfl dd_CoastReader_read_12 (fun M2 _ => ?_)
  refine mj_aload_n (pc := 15) (i := 0) rfl dd_CoastReader_read_15 ?_
  refine mj_getR (pc := 16) (b := 4) (k := 0) qf_CoastReader_12 sh_4 cl_1 rfl (by decide) (r := 41) rfl dd_CoastReader_read_16 ?_
  refine mj_iconst (pc := 19) (v := (0 : Int32)) (by decide) dd_CoastReader_read_19 ?_
  refine mj_putI (pc := 20) (b := 41) (k := 1) qf_CoastReader_35 sh_41 cl_0 rfl (by decide) (by decide) rfl rfl rfl dd_CoastReader_read_20 (fun M3 _ => ?_)
  refine mj_aload_n (pc := 23) (i := 0) rfl dd_CoastReader_read_23 ?_
  refine mj_iconst (pc := 24) (v := (0 : Int32)) (by decide) dd_CoastReader_read_24 ?_
  refine mj_putZ (pc := 25) (b := 4) (k := 3) qf_CoastReader_38 sh_4 cl_1 rfl (by decide) (by decide) (by decide) rfl rfl rfl dd_CoastReader_read_25 (fun M4 _ => ?_)
  refine mj_aload_n (pc := 28) (i := 0) rfl dd_CoastReader_read_28 ?_
  refine mj_iconst (pc := 29) (v := (0 : Int32)) (by decide) dd_CoastReader_read_29 ?_
  refine mj_iconst (pc := 30) (v := (4 : Int32)) (by decide) dd_CoastReader_read_30 ?_
  refine mj_callVV (pc := 31) (idx := 42) (b := 4) (As := [.int (0 : Int32), .int (4 : Int32)]) (st := []) sh_4 cl_1 ev_CoastReader_takeItemsWithout ql_CoastReader_42 rfl (Nat.le_of_ble_eq_true rfl) (T_CoastReader_takeItemsWithout (g := g) e (by omega) (0 : Int32) (4 : Int32) M4) dd_CoastReader_read_31 (fun q5 hq5 => ?_)
  refine mj_aload_n (pc := 34) (i := 0) rfl dd_CoastReader_read_34 ?_
  refine mj_callVV (pc := 35) (idx := 46) (b := 4) (As := []) (st := []) sh_4 cl_1 ev_CoastReader_keepRules ql_CoastReader_46 rfl (Nat.le_of_ble_eq_true rfl) (T_CoastReader_keepRules (g := g) e (by omega) q5) dd_CoastReader_read_35 (fun q6 hq6 => ?_)
  refine mj_aload_n (pc := 38) (i := 0) rfl dd_CoastReader_read_38 ?_
  refine mj_callVV (pc := 39) (idx := 49) (b := 4) (As := []) (st := []) sh_4 cl_1 ev_CoastReader_readClause ql_CoastReader_49 rfl (Nat.le_of_ble_eq_true rfl) (T_CoastReader_readClause (g := g) N e (by omega) q6) dd_CoastReader_read_39 (fun q7 hq7 => ?_)
  refine mj_iconst (pc := 42) (v := (0 : Int32)) (by decide) dd_CoastReader_read_42 ?_
  refine mj_istore_n (pc := 43) (by decide) dd_CoastReader_read_43 ?_
  refine mj_L (L' := [(1, .int (0 : Int32)), (0, .ref 4)]) [0, 1] rfl ?_
  refine mj_L (L' := [(0, .ref 4), (1, .int (0 : Int32))]) [1, 0] rfl ?_
  exact T_CoastReader_read_b44 (g := g) N e he N (0 : Int32) q7
def F_W_fault (N : Nat) (x1 : Int32) (M : mj_M) : Option (Int32 × mj_M) :=
    if x1 = (0) then
     ((F_CoastReader_read N M).bind (fun q4 =>
     some (q4.1, q4.2)))
     else
     (if x1 = (1 : Int32) then
     ((F_LawReader_read N M).bind (fun q3 =>
     some (q3.1, q3.2)))
     else
     (some ((-2 : Int32), M)))
set_option maxRecDepth 20000 in
theorem T_W_fault {g : mj_G} (N : Nat) : ∀ d, 98 ≤ d → ∀ (x1 : Int32) (M : mj_M), mj_Mt g (mj_qI g) d y_W_fault c_W_fault 2 (some .int) [.ref 0, .int x1] M (F_W_fault N x1 M) := by
  intro d hd x1 M
  obtain ⟨e, rfl⟩ : ∃ e, d = e + 1 := ⟨d - 1, by omega⟩
  have he : 97 ≤ e := by omega
  refine mj_met (by decide +kernel) (Nat.le_of_ble_eq_true rfl) ?_
  unfold F_W_fault
  refine mj_L (L' := [(0, .ref 0), (1, .int x1)]) [0, 1] rfl ?_
  refine mj_iload_n (pc := 0) (i := 1) rfl dd_W_fault_0 ?_
  refine mj_if_ne (pc := 1) (tgt := 12) dd_W_fault_1 rfl (fun h1 => ?_) (fun h1 => ?_)
  · refine mj_aload_n (pc := 4) (i := 0) rfl dd_W_fault_4 ?_
    refine mj_getR (pc := 5) (b := 0) (k := 1) qf_W_21 sh_0 cl_11 rfl (by decide) (r := 4) rfl dd_W_fault_5 ?_
    refine mj_callVI (pc := 8) (idx := 113) (b := 4) (As := []) (st := []) sh_4 cl_1 ev_CoastReader_read ql_W_113 rfl (Nat.le_of_ble_eq_true rfl) (T_CoastReader_read (g := g) N e (by omega) M) dd_W_fault_8 (fun q4 hq4 => ?_)
    exact mj_iret dd_W_fault_11 rfl rfl
  · refine mj_iload_n (pc := 12) (i := 1) rfl dd_W_fault_12 ?_
    refine mj_iconst (pc := 13) (v := (1 : Int32)) (by decide) dd_W_fault_13 ?_
    refine mj_icmp_ne (pc := 14) (tgt := 27) dd_W_fault_14 rfl (fun h2 => ?_) (fun h2 => ?_)
    · refine mj_aload_n (pc := 17) (i := 0) rfl dd_W_fault_17 ?_
      refine mj_getR (pc := 18) (b := 0) (k := 2) qf_W_28 sh_0 cl_11 rfl (by decide) (r := 6) rfl dd_W_fault_18 ?_
      refine mj_callVI (pc := 21) (idx := 117) (b := 6) (As := []) (st := []) sh_6 cl_4 ev_LawReader_read ql_W_117 rfl (Nat.le_of_ble_eq_true rfl) (T_LawReader_read (g := g) N e (by omega) M) dd_W_fault_21 (fun q3 hq3 => ?_)
      refine mj_goto (pc := 24) (tgt := 29) dd_W_fault_24 rfl ?_
      exact mj_iret dd_W_fault_29 rfl rfl
    · refine mj_bipush (pc := 27) (v := (-2 : Int32)) (by decide) dd_W_fault_27 ?_
      exact mj_iret dd_W_fault_29 rfl rfl
def F_M_open (x1 : Int32) (M : mj_M) : Option (mj_M) :=
    mj_lt (mj_u M 48 14 x1) (fun M1 =>
     mj_lt (mj_u M1 48 3 (0 : Int32)) (fun M2 =>
     mj_lt (mj_u M2 48 4 (-1 : Int32)) (fun M3 =>
     mj_lt (mj_u M3 48 5 (0 : Int32)) (fun M4 =>
     mj_ck x1 5 (mj_lt (mj_u M4 52 x1.toNatClampNeg (0 : Int32)) (fun M5 =>
     mj_ck x1 5 (mj_lt (mj_u M5 53 x1.toNatClampNeg (0 : Int32)) (fun M6 =>
     some M6))))))))
set_option maxRecDepth 20000 in
theorem T_M_open {g : mj_G} : ∀ d, 1 ≤ d → ∀ (x1 : Int32) (M : mj_M), mj_Mt g (mj_qV g) d y_M_open c_M_open 2 none [.ref 48, .int x1] M (F_M_open x1 M) := by
  intro d hd x1 M
  obtain ⟨e, rfl⟩ : ∃ e, d = e + 1 := ⟨d - 1, by omega⟩
  have he : 0 ≤ e := by omega
  refine mj_met (by decide +kernel) (Nat.le_of_ble_eq_true rfl) ?_
  unfold F_M_open
  refine mj_L (L' := [(0, .ref 48), (1, .int x1)]) [0, 1] rfl ?_
  refine mj_aload_n (pc := 0) (i := 0) rfl dd_M_open_0 ?_
  refine mj_iload_n (pc := 1) (i := 1) rfl dd_M_open_1 ?_
  refine mj_putI (pc := 2) (b := 48) (k := 14) qf_M_110 sh_48 cl_12 rfl (by decide) (by decide) rfl rfl rfl dd_M_open_2 (fun M1 _ => ?_)
  refine mj_aload_n (pc := 5) (i := 0) rfl dd_M_open_5 ?_
  refine mj_iconst (pc := 6) (v := (0 : Int32)) (by decide) dd_M_open_6 ?_
  refine mj_putI (pc := 7) (b := 48) (k := 3) qf_M_100 sh_48 cl_12 rfl (by decide) (by decide) rfl rfl rfl dd_M_open_7 (fun M2 _ => ?_)
  refine mj_aload_n (pc := 10) (i := 0) rfl dd_M_open_10 ?_
  refine mj_iconst (pc := 11) (v := (-1 : Int32)) (by decide) dd_M_open_11 ?_
  refine mj_putI (pc := 12) (b := 48) (k := 4) qf_M_107 sh_48 cl_12 rfl (by decide) (by decide) rfl rfl rfl dd_M_open_12 (fun M3 _ => ?_)
  refine mj_aload_n (pc := 15) (i := 0) rfl dd_M_open_15 ?_
  refine mj_iconst (pc := 16) (v := (0 : Int32)) (by decide) dd_M_open_16 ?_
  refine mj_putI (pc := 17) (b := 48) (k := 5) qf_M_113 sh_48 cl_12 rfl (by decide) (by decide) rfl rfl rfl dd_M_open_17 (fun M4 _ => ?_)
  refine mj_aload_n (pc := 20) (i := 0) rfl dd_M_open_20 ?_
  refine mj_getR (pc := 21) (b := 48) (k := 8) qf_M_19 sh_48 cl_12 rfl (by decide) (r := 52) rfl dd_M_open_21 ?_
  refine mj_iload_n (pc := 24) (i := 1) rfl dd_M_open_24 ?_
  refine mj_iconst (pc := 25) (v := (0 : Int32)) (by decide) dd_M_open_25 ?_
  refine mj_iast (pc := 26) sh_52 dd_M_open_26 (fun M5 _ => ?_)
  refine mj_aload_n (pc := 27) (i := 0) rfl dd_M_open_27 ?_
  refine mj_getR (pc := 28) (b := 48) (k := 9) qf_M_22 sh_48 cl_12 rfl (by decide) (r := 53) rfl dd_M_open_28 ?_
  refine mj_iload_n (pc := 31) (i := 1) rfl dd_M_open_31 ?_
  refine mj_iconst (pc := 32) (v := (0 : Int32)) (by decide) dd_M_open_32 ?_
  refine mj_iast (pc := 33) sh_53 dd_M_open_33 (fun M6 _ => ?_)
  exact mj_vret dd_M_open_34 rfl rfl
def F_M_here (M : mj_M) : Option (Int32 × mj_M) :=
    if (M 48 2) ≤ (M 48 3) then
     (some ((-1 : Int32), M))
     else
     (mj_ck (M 48 3) 240 (
     some (M 49 (M 48 3).toNatClampNeg, M)))
set_option maxRecDepth 20000 in
theorem T_M_here {g : mj_G} : ∀ d, 1 ≤ d → ∀ (M : mj_M), mj_Mt g (mj_qI g) d y_M_here c_M_here 1 (some .int) [.ref 48] M (F_M_here M) := by
  intro d hd M
  obtain ⟨e, rfl⟩ : ∃ e, d = e + 1 := ⟨d - 1, by omega⟩
  have he : 0 ≤ e := by omega
  refine mj_met (by decide +kernel) (Nat.le_of_ble_eq_true rfl) ?_
  unfold F_M_here
  refine mj_L (L' := [(0, .ref 48)]) [0] rfl ?_
  refine mj_aload_n (pc := 0) (i := 0) rfl dd_M_here_0 ?_
  refine mj_getI (pc := 1) (b := 48) (k := 3) qf_M_100 sh_48 cl_12 rfl (by decide) rfl dd_M_here_1 ?_
  refine mj_aload_n (pc := 4) (i := 0) rfl dd_M_here_4 ?_
  refine mj_getI (pc := 5) (b := 48) (k := 2) qf_M_97 sh_48 cl_12 rfl (by decide) rfl dd_M_here_5 ?_
  refine mj_icmp_ge (pc := 8) (tgt := 23) dd_M_here_8 rfl (fun h1 => ?_) (fun h1 => ?_)
  · refine mj_iconst (pc := 23) (v := (-1 : Int32)) (by decide) dd_M_here_23 ?_
    exact mj_iret dd_M_here_24 rfl rfl
  · refine mj_aload_n (pc := 11) (i := 0) rfl dd_M_here_11 ?_
    refine mj_getR (pc := 12) (b := 48) (k := 1) qf_M_9 sh_48 cl_12 rfl (by decide) (r := 49) rfl dd_M_here_12 ?_
    refine mj_aload_n (pc := 15) (i := 0) rfl dd_M_here_15 ?_
    refine mj_getI (pc := 16) (b := 48) (k := 3) qf_M_100 sh_48 cl_12 rfl (by decide) rfl dd_M_here_16 ?_
    refine mj_iald (pc := 19) sh_49 dd_M_here_19 ?_
    refine mj_goto (pc := 20) (tgt := 24) dd_M_here_20 rfl ?_
    exact mj_iret dd_M_here_24 rfl rfl
def F_M_look_b0 (N : Nat) : Nat → mj_M → Option (Int32 × mj_M)
  | 0, _ => none
  | n + 1, M =>
    (F_M_here M).bind (fun q1 =>
     if q1.1 = (32 : Int32) then
     (mj_lt (mj_u q1.2 48 3 ((q1.2 48 3) + (1 : Int32))) (fun M4 =>
     F_M_look_b0 N n M4))
     else
     ((F_M_here q1.2).bind (fun q3 =>
     some (q3.1, q3.2))))
set_option maxRecDepth 20000 in
theorem T_M_look_b0 {g : mj_G} (N : Nat) (e : Nat) (he : 1 ≤ e) : ∀ (n : Nat) (M : mj_M), mj_X g (mj_qI g) "WinterTellersModel" c_M_look 1 (some .int) e 0 [(0, .ref 48)] [] M (F_M_look_b0 N n M) := by
  intro n
  induction n with
  | zero => intro M; exact mj_none
  | succ n ih =>
    intro M
    rw [F_M_look_b0]
    refine mj_aload_n (pc := 0) (i := 0) rfl dd_M_look_0 ?_
    refine mj_callVI (pc := 1) (idx := 103) (b := 48) (As := []) (st := []) sh_48 cl_12 ev_M_here ql_M_103 rfl (Nat.le_of_ble_eq_true rfl) (T_M_here (g := g) e (by omega) M) dd_M_look_1 (fun q1 hq1 => ?_)
    refine mj_bipush (pc := 4) (v := (32 : Int32)) (by decide) dd_M_look_4 ?_
    refine mj_icmp_ne (pc := 6) (tgt := 22) dd_M_look_6 rfl (fun h2 => ?_) (fun h2 => ?_)
    · refine mj_aload_n (pc := 9) (i := 0) rfl dd_M_look_9 ?_
      refine mj_dup (pc := 10) rfl dd_M_look_10 ?_
      refine mj_getI (pc := 11) (b := 48) (k := 3) qf_M_100 sh_48 cl_12 rfl (by decide) rfl dd_M_look_11 ?_
      refine mj_iconst (pc := 14) (v := (1 : Int32)) (by decide) dd_M_look_14 ?_
      refine mj_iadd (pc := 15) dd_M_look_15 ?_
      refine mj_putI (pc := 16) (b := 48) (k := 3) qf_M_100 sh_48 cl_12 rfl (by decide) (by decide) rfl rfl rfl dd_M_look_16 (fun M4 _ => ?_)
      refine mj_goto (pc := 19) (tgt := 0) dd_M_look_19 rfl ?_
      refine mj_L (L' := [(0, .ref 48)]) [0] rfl ?_
      exact ih M4
    · refine mj_aload_n (pc := 22) (i := 0) rfl dd_M_look_22 ?_
      refine mj_callVI (pc := 23) (idx := 103) (b := 48) (As := []) (st := []) sh_48 cl_12 ev_M_here ql_M_103 rfl (Nat.le_of_ble_eq_true rfl) (T_M_here (g := g) e (by omega) q1.2) dd_M_look_23 (fun q3 hq3 => ?_)
      exact mj_iret dd_M_look_26 rfl rfl
def F_M_look (N : Nat) (M : mj_M) : Option (Int32 × mj_M) :=
    F_M_look_b0 N N M
set_option maxRecDepth 20000 in
theorem T_M_look {g : mj_G} (N : Nat) : ∀ d, 2 ≤ d → ∀ (M : mj_M), mj_Mt g (mj_qI g) d y_M_look c_M_look 1 (some .int) [.ref 48] M (F_M_look N M) := by
  intro d hd M
  obtain ⟨e, rfl⟩ : ∃ e, d = e + 1 := ⟨d - 1, by omega⟩
  have he : 1 ≤ e := by omega
  refine mj_met (by decide +kernel) (Nat.le_of_ble_eq_true rfl) ?_
  unfold F_M_look
  refine mj_L (L' := [(0, .ref 48)]) [0] rfl ?_
  refine mj_L (L' := [(0, .ref 48)]) [0] rfl ?_
  exact T_M_look_b0 (g := g) N e he N M
def F_M_bad (M : mj_M) : Option (mj_M) :=
    if (M 48 4) = (-1 : Int32) then
     (mj_lt (mj_u M 48 4 (M 48 3)) (fun M3 =>
     some M3))
     else
     (mj_lt (mj_u M 48 4 (M 48 4)) (fun M2 =>
     some M2))
set_option maxRecDepth 20000 in
theorem T_M_bad {g : mj_G} : ∀ d, 1 ≤ d → ∀ (M : mj_M), mj_Mt g (mj_qV g) d y_M_bad c_M_bad 1 none [.ref 48] M (F_M_bad M) := by
  intro d hd M
  obtain ⟨e, rfl⟩ : ∃ e, d = e + 1 := ⟨d - 1, by omega⟩
  have he : 0 ≤ e := by omega
  refine mj_met (by decide +kernel) (Nat.le_of_ble_eq_true rfl) ?_
  unfold F_M_bad
  refine mj_L (L' := [(0, .ref 48)]) [0] rfl ?_
  refine mj_aload_n (pc := 0) (i := 0) rfl dd_M_bad_0 ?_
  refine mj_aload_n (pc := 1) (i := 0) rfl dd_M_bad_1 ?_
  refine mj_getI (pc := 2) (b := 48) (k := 4) qf_M_107 sh_48 cl_12 rfl (by decide) rfl dd_M_bad_2 ?_
  refine mj_iconst (pc := 5) (v := (-1 : Int32)) (by decide) dd_M_bad_5 ?_
  refine mj_icmp_ne (pc := 6) (tgt := 16) dd_M_bad_6 rfl (fun h1 => ?_) (fun h1 => ?_)
  · refine mj_aload_n (pc := 9) (i := 0) rfl dd_M_bad_9 ?_
    refine mj_getI (pc := 10) (b := 48) (k := 3) qf_M_100 sh_48 cl_12 rfl (by decide) rfl dd_M_bad_10 ?_
    refine mj_goto (pc := 13) (tgt := 20) dd_M_bad_13 rfl ?_
    refine mj_putI (pc := 20) (b := 48) (k := 4) qf_M_107 sh_48 cl_12 rfl (by decide) (by decide) rfl rfl rfl dd_M_bad_20 (fun M3 _ => ?_)
    exact mj_vret dd_M_bad_23 rfl rfl
  · refine mj_aload_n (pc := 16) (i := 0) rfl dd_M_bad_16 ?_
    refine mj_getI (pc := 17) (b := 48) (k := 4) qf_M_107 sh_48 cl_12 rfl (by decide) rfl dd_M_bad_17 ?_
    refine mj_putI (pc := 20) (b := 48) (k := 4) qf_M_107 sh_48 cl_12 rfl (by decide) (by decide) rfl rfl rfl dd_M_bad_20 (fun M2 _ => ?_)
    exact mj_vret dd_M_bad_23 rfl rfl
def F_M_isDigit (x0 : Int32) (M : mj_M) : Option (Int32 × mj_M) :=
    if x0 < (48 : Int32) then
     (some ((0 : Int32), M))
     else
     (if (57 : Int32) < x0 then
     (some ((0 : Int32), M))
     else
     (some ((1 : Int32), M)))
set_option maxRecDepth 20000 in
theorem T_M_isDigit {g : mj_G} : ∀ d, 1 ≤ d → ∀ (x0 : Int32) (M : mj_M), mj_Mt g (mj_qI g) d y_M_isDigit c_M_isDigit 1 (some .boolean) [.int x0] M (F_M_isDigit x0 M) := by
  intro d hd x0 M
  obtain ⟨e, rfl⟩ : ∃ e, d = e + 1 := ⟨d - 1, by omega⟩
  have he : 0 ≤ e := by omega
  refine mj_met (by decide +kernel) (Nat.le_of_ble_eq_true rfl) ?_
  unfold F_M_isDigit
  refine mj_L (L' := [(0, .int x0)]) [0] rfl ?_
  refine mj_iload_n (pc := 0) (i := 0) rfl dd_M_isDigit_0 ?_
  refine mj_bipush (pc := 1) (v := (48 : Int32)) (by decide) dd_M_isDigit_1 ?_
  refine mj_icmp_lt (pc := 3) (tgt := 16) dd_M_isDigit_3 rfl (fun h1 => ?_) (fun h1 => ?_)
  · refine mj_iconst (pc := 16) (v := (0 : Int32)) (by decide) dd_M_isDigit_16 ?_
    exact mj_zret (by decide) dd_M_isDigit_17 rfl rfl
  · refine mj_iload_n (pc := 6) (i := 0) rfl dd_M_isDigit_6 ?_
    refine mj_bipush (pc := 7) (v := (57 : Int32)) (by decide) dd_M_isDigit_7 ?_
    refine mj_icmp_gt (pc := 9) (tgt := 16) dd_M_isDigit_9 rfl (fun h2 => ?_) (fun h2 => ?_)
    · refine mj_iconst (pc := 16) (v := (0 : Int32)) (by decide) dd_M_isDigit_16 ?_
      exact mj_zret (by decide) dd_M_isDigit_17 rfl rfl
    · refine mj_iconst (pc := 12) (v := (1 : Int32)) (by decide) dd_M_isDigit_12 ?_
      refine mj_goto (pc := 13) (tgt := 17) dd_M_isDigit_13 rfl ?_
      exact mj_zret (by decide) dd_M_isDigit_17 rfl rfl
def F_M_letterOf (x0 : Int32) (M : mj_M) : Option (Int32 × mj_M) :=
    if x0 = (108 : Int32) then
     (some ((0 : Int32), M))
     else
     (if x0 = (107 : Int32) then
     (some ((1 : Int32), M))
     else
     (if x0 = (99 : Int32) then
     (some ((2 : Int32), M))
     else
     (if x0 = (110 : Int32) then
     (some ((3 : Int32), M))
     else
     (if x0 = (119 : Int32) then
     (some ((4 : Int32), M))
     else
     (if x0 = (114 : Int32) then
     (some ((5 : Int32), M))
     else
     (some ((-1 : Int32), M)))))))
set_option maxRecDepth 20000 in
theorem T_M_letterOf {g : mj_G} : ∀ d, 1 ≤ d → ∀ (x0 : Int32) (M : mj_M), mj_Mt g (mj_qI g) d y_M_letterOf c_M_letterOf 1 (some .int) [.int x0] M (F_M_letterOf x0 M) := by
  intro d hd x0 M
  obtain ⟨e, rfl⟩ : ∃ e, d = e + 1 := ⟨d - 1, by omega⟩
  have he : 0 ≤ e := by omega
  refine mj_met (by decide +kernel) (Nat.le_of_ble_eq_true rfl) ?_
  unfold F_M_letterOf
  refine mj_L (L' := [(0, .int x0)]) [0] rfl ?_
  refine mj_iload_n (pc := 0) (i := 0) rfl dd_M_letterOf_0 ?_
  refine mj_bipush (pc := 1) (v := (108 : Int32)) (by decide) dd_M_letterOf_1 ?_
  refine mj_icmp_ne (pc := 3) (tgt := 10) dd_M_letterOf_3 rfl (fun h1 => ?_) (fun h1 => ?_)
  · refine mj_iconst (pc := 6) (v := (0 : Int32)) (by decide) dd_M_letterOf_6 ?_
    refine mj_goto (pc := 7) (tgt := 61) dd_M_letterOf_7 rfl ?_
    exact mj_iret dd_M_letterOf_61 rfl rfl
  · refine mj_iload_n (pc := 10) (i := 0) rfl dd_M_letterOf_10 ?_
    refine mj_bipush (pc := 11) (v := (107 : Int32)) (by decide) dd_M_letterOf_11 ?_
    refine mj_icmp_ne (pc := 13) (tgt := 20) dd_M_letterOf_13 rfl (fun h2 => ?_) (fun h2 => ?_)
    · refine mj_iconst (pc := 16) (v := (1 : Int32)) (by decide) dd_M_letterOf_16 ?_
      refine mj_goto (pc := 17) (tgt := 61) dd_M_letterOf_17 rfl ?_
      exact mj_iret dd_M_letterOf_61 rfl rfl
    · refine mj_iload_n (pc := 20) (i := 0) rfl dd_M_letterOf_20 ?_
      refine mj_bipush (pc := 21) (v := (99 : Int32)) (by decide) dd_M_letterOf_21 ?_
      refine mj_icmp_ne (pc := 23) (tgt := 30) dd_M_letterOf_23 rfl (fun h3 => ?_) (fun h3 => ?_)
      · refine mj_iconst (pc := 26) (v := (2 : Int32)) (by decide) dd_M_letterOf_26 ?_
        refine mj_goto (pc := 27) (tgt := 61) dd_M_letterOf_27 rfl ?_
        exact mj_iret dd_M_letterOf_61 rfl rfl
      · refine mj_iload_n (pc := 30) (i := 0) rfl dd_M_letterOf_30 ?_
        refine mj_bipush (pc := 31) (v := (110 : Int32)) (by decide) dd_M_letterOf_31 ?_
        refine mj_icmp_ne (pc := 33) (tgt := 40) dd_M_letterOf_33 rfl (fun h4 => ?_) (fun h4 => ?_)
        · refine mj_iconst (pc := 36) (v := (3 : Int32)) (by decide) dd_M_letterOf_36 ?_
          refine mj_goto (pc := 37) (tgt := 61) dd_M_letterOf_37 rfl ?_
          exact mj_iret dd_M_letterOf_61 rfl rfl
        · refine mj_iload_n (pc := 40) (i := 0) rfl dd_M_letterOf_40 ?_
          refine mj_bipush (pc := 41) (v := (119 : Int32)) (by decide) dd_M_letterOf_41 ?_
          refine mj_icmp_ne (pc := 43) (tgt := 50) dd_M_letterOf_43 rfl (fun h5 => ?_) (fun h5 => ?_)
          · refine mj_iconst (pc := 46) (v := (4 : Int32)) (by decide) dd_M_letterOf_46 ?_
            refine mj_goto (pc := 47) (tgt := 61) dd_M_letterOf_47 rfl ?_
            exact mj_iret dd_M_letterOf_61 rfl rfl
          · refine mj_iload_n (pc := 50) (i := 0) rfl dd_M_letterOf_50 ?_
            refine mj_bipush (pc := 51) (v := (114 : Int32)) (by decide) dd_M_letterOf_51 ?_
            refine mj_icmp_ne (pc := 53) (tgt := 60) dd_M_letterOf_53 rfl (fun h6 => ?_) (fun h6 => ?_)
            · refine mj_iconst (pc := 56) (v := (5 : Int32)) (by decide) dd_M_letterOf_56 ?_
              refine mj_goto (pc := 57) (tgt := 61) dd_M_letterOf_57 rfl ?_
              exact mj_iret dd_M_letterOf_61 rfl rfl
            · refine mj_iconst (pc := 60) (v := (-1 : Int32)) (by decide) dd_M_letterOf_60 ?_
              exact mj_iret dd_M_letterOf_61 rfl rfl
def F_M_opens_b13 (M : mj_M) : Option (mj_M) :=
    mj_lt (mj_u M 48 5 ((M 48 5) + (1 : Int32))) (fun M3 =>
     mj_lt (mj_u M3 48 3 ((M3 48 3) + (1 : Int32))) (fun M4 =>
     some M4))
set_option maxRecDepth 20000 in
theorem T_M_opens_b13 {g : mj_G} (e : Nat) (he : 1 ≤ e) (M : mj_M) : mj_X g (mj_qV g) "WinterTellersModel" c_M_opens 1 none e 13 [(0, .ref 48)] [] M (F_M_opens_b13 M) := by
  unfold F_M_opens_b13
  refine mj_aload_n (pc := 13) (i := 0) rfl dd_M_opens_13 ?_
  refine mj_dup (pc := 14) rfl dd_M_opens_14 ?_
  refine mj_getI (pc := 15) (b := 48) (k := 5) qf_M_113 sh_48 cl_12 rfl (by decide) rfl dd_M_opens_15 ?_
  refine mj_iconst (pc := 18) (v := (1 : Int32)) (by decide) dd_M_opens_18 ?_
  refine mj_iadd (pc := 19) dd_M_opens_19 ?_
  refine mj_putI (pc := 20) (b := 48) (k := 5) qf_M_113 sh_48 cl_12 rfl (by decide) (by decide) rfl rfl rfl dd_M_opens_20 (fun M3 _ => ?_)
  refine mj_aload_n (pc := 23) (i := 0) rfl dd_M_opens_23 ?_
  refine mj_dup (pc := 24) rfl dd_M_opens_24 ?_
  refine mj_getI (pc := 25) (b := 48) (k := 3) qf_M_100 sh_48 cl_12 rfl (by decide) rfl dd_M_opens_25 ?_
  refine mj_iconst (pc := 28) (v := (1 : Int32)) (by decide) dd_M_opens_28 ?_
  refine mj_iadd (pc := 29) dd_M_opens_29 ?_
  refine mj_putI (pc := 30) (b := 48) (k := 3) qf_M_100 sh_48 cl_12 rfl (by decide) (by decide) rfl rfl rfl dd_M_opens_30 (fun M4 _ => ?_)
  exact mj_vret dd_M_opens_33 rfl rfl
def F_M_opens (M : mj_M) : Option (mj_M) :=
    if (M 48 5) = (6 : Int32) then
     ((F_M_bad M).bind (fun q2 =>
     F_M_opens_b13 q2))
     else
     (F_M_opens_b13 M)
set_option maxRecDepth 20000 in
theorem T_M_opens {g : mj_G} : ∀ d, 2 ≤ d → ∀ (M : mj_M), mj_Mt g (mj_qV g) d y_M_opens c_M_opens 1 none [.ref 48] M (F_M_opens M) := by
  intro d hd M
  obtain ⟨e, rfl⟩ : ∃ e, d = e + 1 := ⟨d - 1, by omega⟩
  have he : 1 ≤ e := by omega
  refine mj_met (by decide +kernel) (Nat.le_of_ble_eq_true rfl) ?_
  unfold F_M_opens
  refine mj_L (L' := [(0, .ref 48)]) [0] rfl ?_
  refine mj_aload_n (pc := 0) (i := 0) rfl dd_M_opens_0 ?_
  refine mj_getI (pc := 1) (b := 48) (k := 5) qf_M_113 sh_48 cl_12 rfl (by decide) rfl dd_M_opens_1 ?_
  refine mj_bipush (pc := 4) (v := (6 : Int32)) (by decide) dd_M_opens_4 ?_
  refine mj_icmp_ne (pc := 6) (tgt := 13) dd_M_opens_6 rfl (fun h1 => ?_) (fun h1 => ?_)
  · refine mj_aload_n (pc := 9) (i := 0) rfl dd_M_opens_9 ?_
    refine mj_callVV (pc := 10) (idx := 116) (b := 48) (As := []) (st := []) sh_48 cl_12 ev_M_bad ql_M_116 rfl (Nat.le_of_ble_eq_true rfl) (T_M_bad (g := g) e (by omega) M) dd_M_opens_10 (fun q2 hq2 => ?_)
    refine mj_L (L' := [(0, .ref 48)]) [0] rfl ?_
    exact T_M_opens_b13 (g := g) e he q2
  · refine mj_L (L' := [(0, .ref 48)]) [0] rfl ?_
    exact T_M_opens_b13 (g := g) e he M
def F_M_closes_b20 (N : Nat) (M : mj_M) : Option (mj_M) :=
    mj_lt (mj_u M 48 3 ((M 48 3) + (1 : Int32))) (fun M5 =>
     mj_lt (mj_u M5 48 5 ((M5 48 5) - (1 : Int32))) (fun M6 =>
     some M6))
set_option maxRecDepth 20000 in
theorem T_M_closes_b20 {g : mj_G} (N : Nat) (e : Nat) (he : 2 ≤ e) (M : mj_M) : mj_X g (mj_qV g) "WinterTellersModel" c_M_closes 2 none e 20 [(0, .ref 48)] [] M (F_M_closes_b20 N M) := by
  unfold F_M_closes_b20
  refine mj_aload_n (pc := 20) (i := 0) rfl dd_M_closes_20 ?_
  refine mj_dup (pc := 21) rfl dd_M_closes_21 ?_
  refine mj_getI (pc := 22) (b := 48) (k := 3) qf_M_100 sh_48 cl_12 rfl (by decide) rfl dd_M_closes_22 ?_
  refine mj_iconst (pc := 25) (v := (1 : Int32)) (by decide) dd_M_closes_25 ?_
  refine mj_iadd (pc := 26) dd_M_closes_26 ?_
  refine mj_putI (pc := 27) (b := 48) (k := 3) qf_M_100 sh_48 cl_12 rfl (by decide) (by decide) rfl rfl rfl dd_M_closes_27 (fun M5 _ => ?_)
  refine mj_aload_n (pc := 30) (i := 0) rfl dd_M_closes_30 ?_
  refine mj_dup (pc := 31) rfl dd_M_closes_31 ?_
  refine mj_getI (pc := 32) (b := 48) (k := 5) qf_M_113 sh_48 cl_12 rfl (by decide) rfl dd_M_closes_32 ?_
  refine mj_iconst (pc := 35) (v := (1 : Int32)) (by decide) dd_M_closes_35 ?_
  refine mj_isub (pc := 36) dd_M_closes_36 ?_
  refine mj_putI (pc := 37) (b := 48) (k := 5) qf_M_113 sh_48 cl_12 rfl (by decide) (by decide) rfl rfl rfl dd_M_closes_37 (fun M6 _ => ?_)
  exact mj_vret dd_M_closes_40 rfl rfl
def F_M_closes (N : Nat) (x1 : Int32) (M : mj_M) : Option (mj_M) :=
    if (M 48 4) = (-1 : Int32) then
     ((F_M_look N M).bind (fun q2 =>
     if q2.1 = x1 then
     (F_M_closes_b20 N q2.2)
     else
     ((F_M_bad q2.2).bind (fun q4 =>
     F_M_closes_b20 N q4))))
     else
     (F_M_closes_b20 N M)
set_option maxRecDepth 20000 in
theorem T_M_closes {g : mj_G} (N : Nat) : ∀ d, 3 ≤ d → ∀ (x1 : Int32) (M : mj_M), mj_Mt g (mj_qV g) d y_M_closes c_M_closes 2 none [.ref 48, .int x1] M (F_M_closes N x1 M) := by
  intro d hd x1 M
  obtain ⟨e, rfl⟩ : ∃ e, d = e + 1 := ⟨d - 1, by omega⟩
  have he : 2 ≤ e := by omega
  refine mj_met (by decide +kernel) (Nat.le_of_ble_eq_true rfl) ?_
  unfold F_M_closes
  refine mj_L (L' := [(0, .ref 48), (1, .int x1)]) [0, 1] rfl ?_
  refine mj_aload_n (pc := 0) (i := 0) rfl dd_M_closes_0 ?_
  refine mj_getI (pc := 1) (b := 48) (k := 4) qf_M_107 sh_48 cl_12 rfl (by decide) rfl dd_M_closes_1 ?_
  refine mj_iconst (pc := 4) (v := (-1 : Int32)) (by decide) dd_M_closes_4 ?_
  refine mj_icmp_ne (pc := 5) (tgt := 20) dd_M_closes_5 rfl (fun h1 => ?_) (fun h1 => ?_)
  · refine mj_aload_n (pc := 8) (i := 0) rfl dd_M_closes_8 ?_
    refine mj_callVI (pc := 9) (idx := 119) (b := 48) (As := []) (st := []) sh_48 cl_12 ev_M_look ql_M_119 rfl (Nat.le_of_ble_eq_true rfl) (T_M_look (g := g) N e (by omega) M) dd_M_closes_9 (fun q2 hq2 => ?_)
    refine mj_iload_n (pc := 12) (i := 1) rfl dd_M_closes_12 ?_
    refine mj_icmp_eq (pc := 13) (tgt := 20) dd_M_closes_13 rfl (fun h3 => ?_) (fun h3 => ?_)
    · refine mj_L (L' := [(0, .ref 48)]) [0] rfl ?_
      exact T_M_closes_b20 (g := g) N e he q2.2
    · refine mj_aload_n (pc := 16) (i := 0) rfl dd_M_closes_16 ?_
      refine mj_callVV (pc := 17) (idx := 116) (b := 48) (As := []) (st := []) sh_48 cl_12 ev_M_bad ql_M_116 rfl (Nat.le_of_ble_eq_true rfl) (T_M_bad (g := g) e (by omega) q2.2) dd_M_closes_17 (fun q4 hq4 => ?_)
      refine mj_L (L' := [(0, .ref 48)]) [0] rfl ?_
      exact T_M_closes_b20 (g := g) N e he q4
  · refine mj_L (L' := [(0, .ref 48)]) [0] rfl ?_
    exact T_M_closes_b20 (g := g) N e he M
def F_M_put (x1 : Int32) (x2 : Int32) (M : mj_M) : Option (mj_M) :=
    mj_ck (M 48 14) 5 (
     mj_ck (((520 : Int32) * (M 48 14)) + (M 52 (M 48 14).toNatClampNeg)) 2600 (mj_lt (mj_u M 50 (((520 : Int32) * (M 48 14)) + (M 52 (M 48 14).toNatClampNeg)).toNatClampNeg x1) (fun M1 =>
     mj_ck (M1 48 14) 5 (
     mj_ck (((520 : Int32) * (M1 48 14)) + (M1 52 (M1 48 14).toNatClampNeg)) 2600 (mj_lt (mj_u M1 51 (((520 : Int32) * (M1 48 14)) + (M1 52 (M1 48 14).toNatClampNeg)).toNatClampNeg x2) (fun M2 =>
     mj_ck (M2 48 14) 5 (
     mj_ck (M2 48 14) 5 (mj_lt (mj_u M2 52 (M2 48 14).toNatClampNeg ((M2 52 (M2 48 14).toNatClampNeg) + (1 : Int32))) (fun M3 =>
     some M3)))))))))
set_option maxRecDepth 20000 in
theorem T_M_put {g : mj_G} : ∀ d, 1 ≤ d → ∀ (x1 : Int32) (x2 : Int32) (M : mj_M), mj_Mt g (mj_qV g) d y_M_put c_M_put 3 none [.ref 48, .int x1, .int x2] M (F_M_put x1 x2 M) := by
  intro d hd x1 x2 M
  obtain ⟨e, rfl⟩ : ∃ e, d = e + 1 := ⟨d - 1, by omega⟩
  have he : 0 ≤ e := by omega
  refine mj_met (by decide +kernel) (Nat.le_of_ble_eq_true rfl) ?_
  unfold F_M_put
  refine mj_L (L' := [(0, .ref 48), (1, .int x1), (2, .int x2)]) [0, 1, 2] rfl ?_
  refine mj_aload_n (pc := 0) (i := 0) rfl dd_M_put_0 ?_
  refine mj_getR (pc := 1) (b := 48) (k := 6) qf_M_13 sh_48 cl_12 rfl (by decide) (r := 50) rfl dd_M_put_1 ?_
  refine mj_sipush (pc := 4) (v := (520 : Int32)) (by decide) dd_M_put_4 ?_
  refine mj_aload_n (pc := 7) (i := 0) rfl dd_M_put_7 ?_
  refine mj_getI (pc := 8) (b := 48) (k := 14) qf_M_110 sh_48 cl_12 rfl (by decide) rfl dd_M_put_8 ?_
  refine mj_imul (pc := 11) dd_M_put_11 ?_
  refine mj_aload_n (pc := 12) (i := 0) rfl dd_M_put_12 ?_
  refine mj_getR (pc := 13) (b := 48) (k := 8) qf_M_19 sh_48 cl_12 rfl (by decide) (r := 52) rfl dd_M_put_13 ?_
  refine mj_aload_n (pc := 16) (i := 0) rfl dd_M_put_16 ?_
  refine mj_getI (pc := 17) (b := 48) (k := 14) qf_M_110 sh_48 cl_12 rfl (by decide) rfl dd_M_put_17 ?_
  refine mj_iald (pc := 20) sh_52 dd_M_put_20 ?_
  refine mj_iadd (pc := 21) dd_M_put_21 ?_
  refine mj_iload_n (pc := 22) (i := 1) rfl dd_M_put_22 ?_
  refine mj_iast (pc := 23) sh_50 dd_M_put_23 (fun M1 _ => ?_)
  refine mj_aload_n (pc := 24) (i := 0) rfl dd_M_put_24 ?_
  refine mj_getR (pc := 25) (b := 48) (k := 7) qf_M_16 sh_48 cl_12 rfl (by decide) (r := 51) rfl dd_M_put_25 ?_
  refine mj_sipush (pc := 28) (v := (520 : Int32)) (by decide) dd_M_put_28 ?_
  refine mj_aload_n (pc := 31) (i := 0) rfl dd_M_put_31 ?_
  refine mj_getI (pc := 32) (b := 48) (k := 14) qf_M_110 sh_48 cl_12 rfl (by decide) rfl dd_M_put_32 ?_
  refine mj_imul (pc := 35) dd_M_put_35 ?_
  refine mj_aload_n (pc := 36) (i := 0) rfl dd_M_put_36 ?_
  refine mj_getR (pc := 37) (b := 48) (k := 8) qf_M_19 sh_48 cl_12 rfl (by decide) (r := 52) rfl dd_M_put_37 ?_
  refine mj_aload_n (pc := 40) (i := 0) rfl dd_M_put_40 ?_
  refine mj_getI (pc := 41) (b := 48) (k := 14) qf_M_110 sh_48 cl_12 rfl (by decide) rfl dd_M_put_41 ?_
  refine mj_iald (pc := 44) sh_52 dd_M_put_44 ?_
  refine mj_iadd (pc := 45) dd_M_put_45 ?_
  refine mj_iload_n (pc := 46) (i := 2) rfl dd_M_put_46 ?_
  refine mj_iast (pc := 47) sh_51 dd_M_put_47 (fun M2 _ => ?_)
  refine mj_aload_n (pc := 48) (i := 0) rfl dd_M_put_48 ?_
  refine mj_getR (pc := 49) (b := 48) (k := 8) qf_M_19 sh_48 cl_12 rfl (by decide) (r := 52) rfl dd_M_put_49 ?_
  refine mj_aload_n (pc := 52) (i := 0) rfl dd_M_put_52 ?_
  refine mj_getI (pc := 53) (b := 48) (k := 14) qf_M_110 sh_48 cl_12 rfl (by decide) rfl dd_M_put_53 ?_
  refine mj_dup2 (pc := 56) rfl rfl dd_M_put_56 ?_
  refine mj_iald (pc := 57) sh_52 dd_M_put_57 ?_
  refine mj_iconst (pc := 58) (v := (1 : Int32)) (by decide) dd_M_put_58 ?_
  refine mj_iadd (pc := 59) dd_M_put_59 ?_
  refine mj_iast (pc := 60) sh_52 dd_M_put_60 (fun M3 _ => ?_)
  exact mj_vret dd_M_put_61 rfl rfl
def F_M_plainNumber_b48 (N : Nat) (x1 : Int32) (M : mj_M) : Option (Int32 × mj_M) :=
    (F_M_here M).bind (fun q8 =>
     (F_M_isDigit q8.1 q8.2).bind (fun q9 =>
     if q9.1 = (0) then
     (some (x1, q9.2))
     else
     ((F_M_bad q9.2).bind (fun q11 =>
     some (x1, q11)))))
set_option maxRecDepth 20000 in
theorem T_M_plainNumber_b48 {g : mj_G} (N : Nat) (e : Nat) (he : 1 ≤ e) (x1 : Int32) (M : mj_M) : mj_X g (mj_qI g) "WinterTellersModel" c_M_plainNumber 3 (some .int) e 48 [(0, .ref 48), (1, .int x1)] [] M (F_M_plainNumber_b48 N x1 M) := by
  unfold F_M_plainNumber_b48
  refine mj_aload_n (pc := 48) (i := 0) rfl dd_M_plainNumber_48 ?_
  refine mj_callVI (pc := 49) (idx := 103) (b := 48) (As := []) (st := []) sh_48 cl_12 ev_M_here ql_M_103 rfl (Nat.le_of_ble_eq_true rfl) (T_M_here (g := g) e (by omega) M) dd_M_plainNumber_49 (fun q8 hq8 => ?_)
  refine mj_callSI (pc := 52) (idx := 122) (As := [.int q8.1]) (st := []) es_M_isDigit ql_M_122 rfl (Nat.le_of_ble_eq_true rfl) (T_M_isDigit (g := g) e (by omega) q8.1 q8.2) dd_M_plainNumber_52 (fun q9 hq9 => ?_)
  refine mj_if_eq (pc := 55) (tgt := 62) dd_M_plainNumber_55 rfl (fun h10 => ?_) (fun h10 => ?_)
  · refine mj_iload_n (pc := 62) (i := 1) rfl dd_M_plainNumber_62 ?_
    exact mj_iret dd_M_plainNumber_63 rfl rfl
  · refine mj_aload_n (pc := 58) (i := 0) rfl dd_M_plainNumber_58 ?_
    refine mj_callVV (pc := 59) (idx := 116) (b := 48) (As := []) (st := []) sh_48 cl_12 ev_M_bad ql_M_116 rfl (Nat.le_of_ble_eq_true rfl) (T_M_bad (g := g) e (by omega) q9.2) dd_M_plainNumber_59 (fun q11 hq11 => ?_)
    refine mj_iload_n (pc := 62) (i := 1) rfl dd_M_plainNumber_62 ?_
    exact mj_iret dd_M_plainNumber_63 rfl rfl
def F_M_plainNumber_b4 (N : Nat) : Nat → Int32 → Int32 → mj_M → Option (Int32 × mj_M)
  | 0, _, _, _ => none
  | n + 1, x1, x2, M =>
    if (4 : Int32) ≤ x2 then
     (F_M_plainNumber_b48 N x1 M)
     else
     ((F_M_here M).bind (fun q2 =>
     (F_M_isDigit q2.1 q2.2).bind (fun q3 =>
     if q3.1 = (0) then
     (F_M_plainNumber_b48 N x1 q3.2)
     else
     ((F_M_here q3.2).bind (fun q5 =>
     mj_lt ((((10 : Int32) * x1) + q5.1) - (48 : Int32)) (fun v6 =>
     mj_lt (mj_u q5.2 48 3 ((q5.2 48 3) + (1 : Int32))) (fun M7 =>
     F_M_plainNumber_b4 N n v6 (x2 + (1 : Int32)) M7)))))))
set_option maxRecDepth 20000 in
theorem T_M_plainNumber_b4 {g : mj_G} (N : Nat) (e : Nat) (he : 1 ≤ e) : ∀ (n : Nat) (x1 : Int32) (x2 : Int32) (M : mj_M), mj_X g (mj_qI g) "WinterTellersModel" c_M_plainNumber 3 (some .int) e 4 [(0, .ref 48), (1, .int x1), (2, .int x2)] [] M (F_M_plainNumber_b4 N n x1 x2 M) := by
  intro n
  induction n with
  | zero => intro x1 x2 M; exact mj_none
  | succ n ih =>
    intro x1 x2 M
    rw [F_M_plainNumber_b4]
    refine mj_iload_n (pc := 4) (i := 2) rfl dd_M_plainNumber_4 ?_
    refine mj_iconst (pc := 5) (v := (4 : Int32)) (by decide) dd_M_plainNumber_5 ?_
    refine mj_icmp_ge (pc := 6) (tgt := 48) dd_M_plainNumber_6 rfl (fun h1 => ?_) (fun h1 => ?_)
    · refine mj_L (L' := [(0, .ref 48), (1, .int x1)]) [0, 1] rfl ?_
      exact T_M_plainNumber_b48 (g := g) N e he x1 M
    · refine mj_aload_n (pc := 9) (i := 0) rfl dd_M_plainNumber_9 ?_
      refine mj_callVI (pc := 10) (idx := 103) (b := 48) (As := []) (st := []) sh_48 cl_12 ev_M_here ql_M_103 rfl (Nat.le_of_ble_eq_true rfl) (T_M_here (g := g) e (by omega) M) dd_M_plainNumber_10 (fun q2 hq2 => ?_)
      refine mj_callSI (pc := 13) (idx := 122) (As := [.int q2.1]) (st := []) es_M_isDigit ql_M_122 rfl (Nat.le_of_ble_eq_true rfl) (T_M_isDigit (g := g) e (by omega) q2.1 q2.2) dd_M_plainNumber_13 (fun q3 hq3 => ?_)
      refine mj_if_eq (pc := 16) (tgt := 48) dd_M_plainNumber_16 rfl (fun h4 => ?_) (fun h4 => ?_)
      · refine mj_L (L' := [(0, .ref 48), (1, .int x1)]) [0, 1] rfl ?_
        exact T_M_plainNumber_b48 (g := g) N e he x1 q3.2
      · refine mj_bipush (pc := 19) (v := (10 : Int32)) (by decide) dd_M_plainNumber_19 ?_
        refine mj_iload_n (pc := 21) (i := 1) rfl dd_M_plainNumber_21 ?_
        refine mj_imul (pc := 22) dd_M_plainNumber_22 ?_
        refine mj_aload_n (pc := 23) (i := 0) rfl dd_M_plainNumber_23 ?_
        refine mj_callVI (pc := 24) (idx := 103) (b := 48) (As := []) (st := [.int ((10 : Int32) * x1)]) sh_48 cl_12 ev_M_here ql_M_103 rfl (Nat.le_of_ble_eq_true rfl) (T_M_here (g := g) e (by omega) q3.2) dd_M_plainNumber_24 (fun q5 hq5 => ?_)
        refine mj_iadd (pc := 27) dd_M_plainNumber_27 ?_
        refine mj_bipush (pc := 28) (v := (48 : Int32)) (by decide) dd_M_plainNumber_28 ?_
        refine mj_isub (pc := 30) dd_M_plainNumber_30 ?_
        refine mj_istore_nL (pc := 31) (by decide) dd_M_plainNumber_31 (fun v6 _ => ?_)
        refine mj_L (L' := [(1, .int v6), (0, .ref 48), (2, .int x2)]) [0, 1, 2] rfl ?_
        refine mj_aload_n (pc := 32) (i := 0) rfl dd_M_plainNumber_32 ?_
        refine mj_dup (pc := 33) rfl dd_M_plainNumber_33 ?_
        refine mj_getI (pc := 34) (b := 48) (k := 3) qf_M_100 sh_48 cl_12 rfl (by decide) rfl dd_M_plainNumber_34 ?_
        refine mj_iconst (pc := 37) (v := (1 : Int32)) (by decide) dd_M_plainNumber_37 ?_
        refine mj_iadd (pc := 38) dd_M_plainNumber_38 ?_
        refine mj_putI (pc := 39) (b := 48) (k := 3) qf_M_100 sh_48 cl_12 rfl (by decide) (by decide) rfl rfl rfl dd_M_plainNumber_39 (fun M7 _ => ?_)
        refine mj_iinc (pc := 42) (i := 2) (z := (1 : Int32)) rfl (by decide) (by decide) dd_M_plainNumber_42 ?_
        refine mj_L (L' := [(2, .int (x2 + (1 : Int32))), (1, .int v6), (0, .ref 48)]) [0, 1, 2] rfl ?_
        refine mj_goto (pc := 45) (tgt := 4) dd_M_plainNumber_45 rfl ?_
        refine mj_L (L' := [(0, .ref 48), (1, .int v6), (2, .int (x2 + (1 : Int32)))]) [2, 1, 0] rfl ?_
        exact ih v6 (x2 + (1 : Int32)) M7
def F_M_plainNumber (N : Nat) (M : mj_M) : Option (Int32 × mj_M) :=
    F_M_plainNumber_b4 N N (0 : Int32) (0 : Int32) M
set_option maxRecDepth 20000 in
theorem T_M_plainNumber {g : mj_G} (N : Nat) : ∀ d, 2 ≤ d → ∀ (M : mj_M), mj_Mt g (mj_qI g) d y_M_plainNumber c_M_plainNumber 3 (some .int) [.ref 48] M (F_M_plainNumber N M) := by
  intro d hd M
  obtain ⟨e, rfl⟩ : ∃ e, d = e + 1 := ⟨d - 1, by omega⟩
  have he : 1 ≤ e := by omega
  refine mj_met (by decide +kernel) (Nat.le_of_ble_eq_true rfl) ?_
  unfold F_M_plainNumber
  refine mj_L (L' := [(0, .ref 48)]) [0] rfl ?_
  refine mj_iconst (pc := 0) (v := (0 : Int32)) (by decide) dd_M_plainNumber_0 ?_
  refine mj_istore_n (pc := 1) (by decide) dd_M_plainNumber_1 ?_
  refine mj_L (L' := [(1, .int (0 : Int32)), (0, .ref 48)]) [0, 1] rfl ?_
  refine mj_iconst (pc := 2) (v := (0 : Int32)) (by decide) dd_M_plainNumber_2 ?_
  refine mj_istore_n (pc := 3) (by decide) dd_M_plainNumber_3 ?_
  refine mj_L (L' := [(2, .int (0 : Int32)), (1, .int (0 : Int32)), (0, .ref 48)]) [0, 1, 2] rfl ?_
  refine mj_L (L' := [(0, .ref 48), (1, .int (0 : Int32)), (2, .int (0 : Int32))]) [2, 1, 0] rfl ?_
  exact T_M_plainNumber_b4 (g := g) N e he N (0 : Int32) (0 : Int32) M
def F_M_atom (N : Nat) (K : mj_M → Option (mj_M)) (M : mj_M) : Option (mj_M) :=
    (F_M_look N M).bind (fun q1 =>
     (F_M_isDigit q1.1 q1.2).bind (fun q2 =>
     if q2.1 = (0) then
     ((F_M_letterOf q1.1 q2.2).bind (fun q4 =>
     if q4.1 = (-1 : Int32) then
     (if q1.1 = (91 : Int32) then
     ((F_M_opens q4.2).bind (fun q8 =>
     if (q8 48 4) = (-1 : Int32) then
     ((K q8).bind (fun q10 =>
     (F_M_closes N (93 : Int32) q10).bind (fun q11 =>
     some q11)))
     else
     (some q8)))
     else
     ((F_M_bad q4.2).bind (fun q7 =>
     some q7)))
     else
     (mj_lt (mj_u q4.2 48 3 ((q4.2 48 3) + (1 : Int32))) (fun M12 =>
     (F_M_letterOf q1.1 M12).bind (fun q13 =>
     (F_M_put (1 : Int32) q13.1 q13.2).bind (fun q14 =>
     some q14))))))
     else
     ((F_M_plainNumber N q2.2).bind (fun q15 =>
     (F_M_put (0 : Int32) q15.1 q15.2).bind (fun q16 =>
     some q16)))))
set_option maxRecDepth 20000 in
theorem T_M_atom {g : mj_G} (N : Nat) (K : mj_M → Option (mj_M)) (dk : Nat) (hdk : 8 ≤ dk) (hK : ∀ e, dk ≤ e → ∀ (M : mj_M), mj_Mt g (mj_qV g) e y_M_sum c_M_sum 2 none [.ref 48] M (K M)) : ∀ d, dk + 1 ≤ d → ∀ (M : mj_M), mj_Mt g (mj_qV g) d y_M_atom c_M_atom 2 none [.ref 48] M (F_M_atom N K M) := by
  intro d hd M
  obtain ⟨e, rfl⟩ : ∃ e, d = e + 1 := ⟨d - 1, by omega⟩
  have he : dk + 0 ≤ e := by omega
  refine mj_met (by decide +kernel) (Nat.le_of_ble_eq_true rfl) ?_
  unfold F_M_atom
  refine mj_L (L' := [(0, .ref 48)]) [0] rfl ?_
  refine mj_aload_n (pc := 0) (i := 0) rfl dd_M_atom_0 ?_
  refine mj_callVI (pc := 1) (idx := 119) (b := 48) (As := []) (st := []) sh_48 cl_12 ev_M_look ql_M_119 rfl (Nat.le_of_ble_eq_true rfl) (T_M_look (g := g) N e (by omega) M) dd_M_atom_1 (fun q1 hq1 => ?_)
  refine mj_istore_n (pc := 4) (by decide) dd_M_atom_4 ?_
  refine mj_L (L' := [(1, .int q1.1), (0, .ref 48)]) [0, 1] rfl ?_
  refine mj_iload_n (pc := 5) (i := 1) rfl dd_M_atom_5 ?_
  refine mj_callSI (pc := 6) (idx := 122) (As := [.int q1.1]) (st := []) es_M_isDigit ql_M_122 rfl (Nat.le_of_ble_eq_true rfl) (T_M_isDigit (g := g) e (by omega) q1.1 q1.2) dd_M_atom_6 (fun q2 hq2 => ?_)
  refine mj_if_eq (pc := 9) (tgt := 24) dd_M_atom_9 rfl (fun h3 => ?_) (fun h3 => ?_)
  · refine mj_iload_n (pc := 24) (i := 1) rfl dd_M_atom_24 ?_
    refine mj_callSI (pc := 25) (idx := 133) (As := [.int q1.1]) (st := []) es_M_letterOf ql_M_133 rfl (Nat.le_of_ble_eq_true rfl) (T_M_letterOf (g := g) e (by omega) q1.1 q2.2) dd_M_atom_25 (fun q4 hq4 => ?_)
    refine mj_iconst (pc := 28) (v := (-1 : Int32)) (by decide) dd_M_atom_28 ?_
    refine mj_icmp_eq (pc := 29) (tgt := 54) dd_M_atom_29 rfl (fun h5 => ?_) (fun h5 => ?_)
    · refine mj_iload_n (pc := 54) (i := 1) rfl dd_M_atom_54 ?_
      refine mj_bipush (pc := 55) (v := (91 : Int32)) (by decide) dd_M_atom_55 ?_
      refine mj_icmp_ne (pc := 57) (tgt := 85) dd_M_atom_57 rfl (fun h6 => ?_) (fun h6 => ?_)
      · refine mj_aload_n (pc := 60) (i := 0) rfl dd_M_atom_60 ?_
        refine mj_callVV (pc := 61) (idx := 137) (b := 48) (As := []) (st := []) sh_48 cl_12 ev_M_opens ql_M_137 rfl (Nat.le_of_ble_eq_true rfl) (T_M_opens (g := g) e (by omega) q4.2) dd_M_atom_61 (fun q8 hq8 => ?_)
        refine mj_aload_n (pc := 64) (i := 0) rfl dd_M_atom_64 ?_
        refine mj_getI (pc := 65) (b := 48) (k := 4) qf_M_107 sh_48 cl_12 rfl (by decide) rfl dd_M_atom_65 ?_
        refine mj_iconst (pc := 68) (v := (-1 : Int32)) (by decide) dd_M_atom_68 ?_
        refine mj_icmp_ne (pc := 69) (tgt := 89) dd_M_atom_69 rfl (fun h9 => ?_) (fun h9 => ?_)
        · refine mj_aload_n (pc := 72) (i := 0) rfl dd_M_atom_72 ?_
          refine mj_callVV (pc := 73) (idx := 140) (b := 48) (As := []) (st := []) sh_48 cl_12 ev_M_sum ql_M_140 rfl (Nat.le_of_ble_eq_true rfl) (hK e (by omega) q8) dd_M_atom_73 (fun q10 hq10 => ?_)
          refine mj_aload_n (pc := 76) (i := 0) rfl dd_M_atom_76 ?_
          refine mj_bipush (pc := 77) (v := (93 : Int32)) (by decide) dd_M_atom_77 ?_
          refine mj_callVV (pc := 79) (idx := 143) (b := 48) (As := [.int (93 : Int32)]) (st := []) sh_48 cl_12 ev_M_closes ql_M_143 rfl (Nat.le_of_ble_eq_true rfl) (T_M_closes (g := g) N e (by omega) (93 : Int32) q10) dd_M_atom_79 (fun q11 hq11 => ?_)
          refine mj_goto (pc := 82) (tgt := 89) dd_M_atom_82 rfl ?_
          exact mj_vret dd_M_atom_89 rfl rfl
        · exact mj_vret dd_M_atom_89 rfl rfl
      · refine mj_aload_n (pc := 85) (i := 0) rfl dd_M_atom_85 ?_
        refine mj_callVV (pc := 86) (idx := 116) (b := 48) (As := []) (st := []) sh_48 cl_12 ev_M_bad ql_M_116 rfl (Nat.le_of_ble_eq_true rfl) (T_M_bad (g := g) e (by omega) q4.2) dd_M_atom_86 (fun q7 hq7 => ?_)
        exact mj_vret dd_M_atom_89 rfl rfl
    · refine mj_aload_n (pc := 32) (i := 0) rfl dd_M_atom_32 ?_
      refine mj_dup (pc := 33) rfl dd_M_atom_33 ?_
      refine mj_getI (pc := 34) (b := 48) (k := 3) qf_M_100 sh_48 cl_12 rfl (by decide) rfl dd_M_atom_34 ?_
      refine mj_iconst (pc := 37) (v := (1 : Int32)) (by decide) dd_M_atom_37 ?_
      refine mj_iadd (pc := 38) dd_M_atom_38 ?_
      refine mj_putI (pc := 39) (b := 48) (k := 3) qf_M_100 sh_48 cl_12 rfl (by decide) (by decide) rfl rfl rfl dd_M_atom_39 (fun M12 _ => ?_)
      refine mj_aload_n (pc := 42) (i := 0) rfl dd_M_atom_42 ?_
      refine mj_iconst (pc := 43) (v := (1 : Int32)) (by decide) dd_M_atom_43 ?_
      refine mj_iload_n (pc := 44) (i := 1) rfl dd_M_atom_44 ?_
      refine mj_callSI (pc := 45) (idx := 133) (As := [.int q1.1]) (st := [.int (1 : Int32), .ref 48]) es_M_letterOf ql_M_133 rfl (Nat.le_of_ble_eq_true rfl) (T_M_letterOf (g := g) e (by omega) q1.1 M12) dd_M_atom_45 (fun q13 hq13 => ?_)
      refine mj_callVV (pc := 48) (idx := 129) (b := 48) (As := [.int (1 : Int32), .int q13.1]) (st := []) sh_48 cl_12 ev_M_put ql_M_129 rfl (Nat.le_of_ble_eq_true rfl) (T_M_put (g := g) e (by omega) (1 : Int32) q13.1 q13.2) dd_M_atom_48 (fun q14 hq14 => ?_)
      refine mj_goto (pc := 51) (tgt := 89) dd_M_atom_51 rfl ?_
      exact mj_vret dd_M_atom_89 rfl rfl
  · refine mj_aload_n (pc := 12) (i := 0) rfl dd_M_atom_12 ?_
    refine mj_iconst (pc := 13) (v := (0 : Int32)) (by decide) dd_M_atom_13 ?_
    refine mj_aload_n (pc := 14) (i := 0) rfl dd_M_atom_14 ?_
    refine mj_callVI (pc := 15) (idx := 126) (b := 48) (As := []) (st := [.int (0 : Int32), .ref 48]) sh_48 cl_12 ev_M_plainNumber ql_M_126 rfl (Nat.le_of_ble_eq_true rfl) (T_M_plainNumber (g := g) N e (by omega) q2.2) dd_M_atom_15 (fun q15 hq15 => ?_)
    refine mj_callVV (pc := 18) (idx := 129) (b := 48) (As := [.int (0 : Int32), .int q15.1]) (st := []) sh_48 cl_12 ev_M_put ql_M_129 rfl (Nat.le_of_ble_eq_true rfl) (T_M_put (g := g) e (by omega) (0 : Int32) q15.1 q15.2) dd_M_atom_18 (fun q16 hq16 => ?_)
    refine mj_goto (pc := 21) (tgt := 89) dd_M_atom_21 rfl ?_
    exact mj_vret dd_M_atom_89 rfl rfl
def F_M_term_b59 (N : Nat) (K : mj_M → Option (mj_M)) (k21 : Int32 → mj_M → Option (mj_M)) (s1 : Int32) (M : mj_M) : Option (mj_M) :=
    (F_M_put s1 (0 : Int32) M).bind (fun q9 =>
     if (q9 48 4) = (-1 : Int32) then
     ((F_M_look N q9).bind (fun q11 =>
     k21 q11.1 q11.2))
     else
     (k21 (-1 : Int32) q9))
set_option maxRecDepth 20000 in
theorem T_M_term_b59 {g : mj_G} (N : Nat) (K : mj_M → Option (mj_M)) (dk : Nat) (hdk : 8 ≤ dk) (hK : ∀ e, dk ≤ e → ∀ (M : mj_M), mj_Mt g (mj_qV g) e y_M_sum c_M_sum 2 none [.ref 48] M (K M)) (e : Nat) (he : dk + 1 ≤ e) (k21 : Int32 → mj_M → Option (mj_M)) (hk21 : ∀ (x1 : Int32) (M : mj_M), mj_X g (mj_qV g) "WinterTellersModel" c_M_term 2 none e 21 [(0, .ref 48), (1, .int x1)] [] M (k21 x1 M)) (s1 : Int32) (M : mj_M) : mj_X g (mj_qV g) "WinterTellersModel" c_M_term 2 none e 59 [(0, .ref 48)] [.int s1, .ref 48] M (F_M_term_b59 N K k21 s1 M) := by
  unfold F_M_term_b59
  refine mj_iconst (pc := 59) (v := (0 : Int32)) (by decide) dd_M_term_59 ?_
  refine mj_callVV (pc := 60) (idx := 129) (b := 48) (As := [.int s1, .int (0 : Int32)]) (st := []) sh_48 cl_12 ev_M_put ql_M_129 rfl (Nat.le_of_ble_eq_true rfl) (T_M_put (g := g) e (by omega) s1 (0 : Int32) M) dd_M_term_60 (fun q9 hq9 => ?_)
  refine mj_aload_n (pc := 63) (i := 0) rfl dd_M_term_63 ?_
  refine mj_getI (pc := 64) (b := 48) (k := 4) qf_M_107 sh_48 cl_12 rfl (by decide) rfl dd_M_term_64 ?_
  refine mj_iconst (pc := 67) (v := (-1 : Int32)) (by decide) dd_M_term_67 ?_
  refine mj_icmp_ne (pc := 68) (tgt := 78) dd_M_term_68 rfl (fun h10 => ?_) (fun h10 => ?_)
  · refine mj_aload_n (pc := 71) (i := 0) rfl dd_M_term_71 ?_
    refine mj_callVI (pc := 72) (idx := 119) (b := 48) (As := []) (st := []) sh_48 cl_12 ev_M_look ql_M_119 rfl (Nat.le_of_ble_eq_true rfl) (T_M_look (g := g) N e (by omega) q9) dd_M_term_72 (fun q11 hq11 => ?_)
    refine mj_goto (pc := 75) (tgt := 79) dd_M_term_75 rfl ?_
    refine mj_istore_n (pc := 79) (by decide) dd_M_term_79 ?_
    refine mj_L (L' := [(1, .int q11.1), (0, .ref 48)]) [0, 1] rfl ?_
    refine mj_goto (pc := 80) (tgt := 21) dd_M_term_80 rfl ?_
    refine mj_L (L' := [(0, .ref 48), (1, .int q11.1)]) [1, 0] rfl ?_
    exact hk21 q11.1 q11.2
  · refine mj_iconst (pc := 78) (v := (-1 : Int32)) (by decide) dd_M_term_78 ?_
    refine mj_istore_n (pc := 79) (by decide) dd_M_term_79 ?_
    refine mj_L (L' := [(1, .int (-1 : Int32)), (0, .ref 48)]) [0, 1] rfl ?_
    refine mj_goto (pc := 80) (tgt := 21) dd_M_term_80 rfl ?_
    refine mj_L (L' := [(0, .ref 48), (1, .int (-1 : Int32))]) [1, 0] rfl ?_
    exact hk21 (-1 : Int32) q9
def F_M_term_b33 (N : Nat) (K : mj_M → Option (mj_M)) (k21 : Int32 → mj_M → Option (mj_M)) (x1 : Int32) (M : mj_M) : Option (mj_M) :=
    mj_lt (mj_u M 48 3 ((M 48 3) + (1 : Int32))) (fun M6 =>
     (F_M_atom N K M6).bind (fun q7 =>
     if x1 = (42 : Int32) then
     (F_M_term_b59 N K k21 (4 : Int32) q7)
     else
     (F_M_term_b59 N K k21 (5 : Int32) q7)))
set_option maxRecDepth 20000 in
theorem T_M_term_b33 {g : mj_G} (N : Nat) (K : mj_M → Option (mj_M)) (dk : Nat) (hdk : 8 ≤ dk) (hK : ∀ e, dk ≤ e → ∀ (M : mj_M), mj_Mt g (mj_qV g) e y_M_sum c_M_sum 2 none [.ref 48] M (K M)) (e : Nat) (he : dk + 1 ≤ e) (k21 : Int32 → mj_M → Option (mj_M)) (hk21 : ∀ (x1 : Int32) (M : mj_M), mj_X g (mj_qV g) "WinterTellersModel" c_M_term 2 none e 21 [(0, .ref 48), (1, .int x1)] [] M (k21 x1 M)) (x1 : Int32) (M : mj_M) : mj_X g (mj_qV g) "WinterTellersModel" c_M_term 2 none e 33 [(0, .ref 48), (1, .int x1)] [] M (F_M_term_b33 N K k21 x1 M) := by
  unfold F_M_term_b33
  refine mj_aload_n (pc := 33) (i := 0) rfl dd_M_term_33 ?_
  refine mj_dup (pc := 34) rfl dd_M_term_34 ?_
  refine mj_getI (pc := 35) (b := 48) (k := 3) qf_M_100 sh_48 cl_12 rfl (by decide) rfl dd_M_term_35 ?_
  refine mj_iconst (pc := 38) (v := (1 : Int32)) (by decide) dd_M_term_38 ?_
  refine mj_iadd (pc := 39) dd_M_term_39 ?_
  refine mj_putI (pc := 40) (b := 48) (k := 3) qf_M_100 sh_48 cl_12 rfl (by decide) (by decide) rfl rfl rfl dd_M_term_40 (fun M6 _ => ?_)
  refine mj_aload_n (pc := 43) (i := 0) rfl dd_M_term_43 ?_
  refine mj_callVV (pc := 44) (idx := 147) (b := 48) (As := []) (st := []) sh_48 cl_12 ev_M_atom ql_M_147 rfl (Nat.le_of_ble_eq_true rfl) (T_M_atom (g := g) N K dk hdk hK e (by omega) M6) dd_M_term_44 (fun q7 hq7 => ?_)
  refine mj_aload_n (pc := 47) (i := 0) rfl dd_M_term_47 ?_
  refine mj_iload_n (pc := 48) (i := 1) rfl dd_M_term_48 ?_
  refine mj_bipush (pc := 49) (v := (42 : Int32)) (by decide) dd_M_term_49 ?_
  refine mj_icmp_ne (pc := 51) (tgt := 58) dd_M_term_51 rfl (fun h8 => ?_) (fun h8 => ?_)
  · refine mj_iconst (pc := 54) (v := (4 : Int32)) (by decide) dd_M_term_54 ?_
    refine mj_goto (pc := 55) (tgt := 59) dd_M_term_55 rfl ?_
    refine mj_L (L' := [(0, .ref 48)]) [0] rfl ?_
    exact T_M_term_b59 (g := g) N K dk hdk hK e he k21 hk21 (4 : Int32) q7
  · refine mj_iconst (pc := 58) (v := (5 : Int32)) (by decide) dd_M_term_58 ?_
    refine mj_L (L' := [(0, .ref 48)]) [0] rfl ?_
    exact T_M_term_b59 (g := g) N K dk hdk hK e he k21 hk21 (5 : Int32) q7
def F_M_term_b21 (N : Nat) (K : mj_M → Option (mj_M)) : Nat → Int32 → mj_M → Option (mj_M)
  | 0, _, _ => none
  | n + 1, x1, M =>
    if x1 = (42 : Int32) then
     (F_M_term_b33 N K (F_M_term_b21 N K n) x1 M)
     else
     (if x1 = (47 : Int32) then
     (F_M_term_b33 N K (F_M_term_b21 N K n) x1 M)
     else
     (some M))
set_option maxRecDepth 20000 in
theorem T_M_term_b21 {g : mj_G} (N : Nat) (K : mj_M → Option (mj_M)) (dk : Nat) (hdk : 8 ≤ dk) (hK : ∀ e, dk ≤ e → ∀ (M : mj_M), mj_Mt g (mj_qV g) e y_M_sum c_M_sum 2 none [.ref 48] M (K M)) (e : Nat) (he : dk + 1 ≤ e) : ∀ (n : Nat) (x1 : Int32) (M : mj_M), mj_X g (mj_qV g) "WinterTellersModel" c_M_term 2 none e 21 [(0, .ref 48), (1, .int x1)] [] M (F_M_term_b21 N K n x1 M) := by
  intro n
  induction n with
  | zero => intro x1 M; exact mj_none
  | succ n ih =>
    intro x1 M
    rw [F_M_term_b21]
    refine mj_iload_n (pc := 21) (i := 1) rfl dd_M_term_21 ?_
    refine mj_bipush (pc := 22) (v := (42 : Int32)) (by decide) dd_M_term_22 ?_
    refine mj_icmp_eq (pc := 24) (tgt := 33) dd_M_term_24 rfl (fun h4 => ?_) (fun h4 => ?_)
    · refine mj_L (L' := [(0, .ref 48), (1, .int x1)]) [0, 1] rfl ?_
      exact T_M_term_b33 (g := g) N K dk hdk hK e he (F_M_term_b21 N K n) ih x1 M
    · refine mj_iload_n (pc := 27) (i := 1) rfl dd_M_term_27 ?_
      refine mj_bipush (pc := 28) (v := (47 : Int32)) (by decide) dd_M_term_28 ?_
      refine mj_icmp_ne (pc := 30) (tgt := 83) dd_M_term_30 rfl (fun h5 => ?_) (fun h5 => ?_)
      · refine mj_L (L' := [(0, .ref 48), (1, .int x1)]) [0, 1] rfl ?_
        exact T_M_term_b33 (g := g) N K dk hdk hK e he (F_M_term_b21 N K n) ih x1 M
      · exact mj_vret dd_M_term_83 rfl rfl
def F_M_term (N : Nat) (K : mj_M → Option (mj_M)) (M : mj_M) : Option (mj_M) :=
    (F_M_atom N K M).bind (fun q1 =>
     if (q1 48 4) = (-1 : Int32) then
     ((F_M_look N q1).bind (fun q3 =>
     F_M_term_b21 N K N q3.1 q3.2))
     else
     (F_M_term_b21 N K N (-1 : Int32) q1))
set_option maxRecDepth 20000 in
theorem T_M_term {g : mj_G} (N : Nat) (K : mj_M → Option (mj_M)) (dk : Nat) (hdk : 8 ≤ dk) (hK : ∀ e, dk ≤ e → ∀ (M : mj_M), mj_Mt g (mj_qV g) e y_M_sum c_M_sum 2 none [.ref 48] M (K M)) : ∀ d, dk + 2 ≤ d → ∀ (M : mj_M), mj_Mt g (mj_qV g) d y_M_term c_M_term 2 none [.ref 48] M (F_M_term N K M) := by
  intro d hd M
  obtain ⟨e, rfl⟩ : ∃ e, d = e + 1 := ⟨d - 1, by omega⟩
  have he : dk + 1 ≤ e := by omega
  refine mj_met (by decide +kernel) (Nat.le_of_ble_eq_true rfl) ?_
  unfold F_M_term
  refine mj_L (L' := [(0, .ref 48)]) [0] rfl ?_
  refine mj_aload_n (pc := 0) (i := 0) rfl dd_M_term_0 ?_
  refine mj_callVV (pc := 1) (idx := 147) (b := 48) (As := []) (st := []) sh_48 cl_12 ev_M_atom ql_M_147 rfl (Nat.le_of_ble_eq_true rfl) (T_M_atom (g := g) N K dk hdk hK e (by omega) M) dd_M_term_1 (fun q1 hq1 => ?_)
  refine mj_aload_n (pc := 4) (i := 0) rfl dd_M_term_4 ?_
  refine mj_getI (pc := 5) (b := 48) (k := 4) qf_M_107 sh_48 cl_12 rfl (by decide) rfl dd_M_term_5 ?_
  refine mj_iconst (pc := 8) (v := (-1 : Int32)) (by decide) dd_M_term_8 ?_
  refine mj_icmp_ne (pc := 9) (tgt := 19) dd_M_term_9 rfl (fun h2 => ?_) (fun h2 => ?_)
  · refine mj_aload_n (pc := 12) (i := 0) rfl dd_M_term_12 ?_
    refine mj_callVI (pc := 13) (idx := 119) (b := 48) (As := []) (st := []) sh_48 cl_12 ev_M_look ql_M_119 rfl (Nat.le_of_ble_eq_true rfl) (T_M_look (g := g) N e (by omega) q1) dd_M_term_13 (fun q3 hq3 => ?_)
    refine mj_goto (pc := 16) (tgt := 20) dd_M_term_16 rfl ?_
    refine mj_istore_n (pc := 20) (by decide) dd_M_term_20 ?_
    refine mj_L (L' := [(1, .int q3.1), (0, .ref 48)]) [0, 1] rfl ?_
    refine mj_L (L' := [(0, .ref 48), (1, .int q3.1)]) [1, 0] rfl ?_
    exact T_M_term_b21 (g := g) N K dk hdk hK e he N q3.1 q3.2
  · refine mj_iconst (pc := 19) (v := (-1 : Int32)) (by decide) dd_M_term_19 ?_
    refine mj_istore_n (pc := 20) (by decide) dd_M_term_20 ?_
    refine mj_L (L' := [(1, .int (-1 : Int32)), (0, .ref 48)]) [0, 1] rfl ?_
    refine mj_L (L' := [(0, .ref 48), (1, .int (-1 : Int32))]) [1, 0] rfl ?_
    exact T_M_term_b21 (g := g) N K dk hdk hK e he N (-1 : Int32) q1
