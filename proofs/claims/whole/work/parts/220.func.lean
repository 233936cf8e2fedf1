/-! ===== functions and their proofs ===== -/
def F_W_where_b29 (N : Nat) : Nat → Int32 → Int32 → Int32 → Int32 → mj_M → Option (Int32 × mj_M)
  | 0, _, _, _, _, _ => none
  | n + 1, x1, x2, x3, x4, M =>
    if (M 13 0) ≤ x4 then
     (some (x3, M))
     else
     ((F_Stays_now N x4 x1 M).bind (fun q6 =>
     if q6.1 < x2 then
     (F_W_where_b29 N n x1 x2 x3 (x4 + (1 : Int32)) q6.2)
     else
     (mj_lt (x3 ||| ((1 : Int32) <<< (x4 &&& 31))) (fun v8 =>
     F_W_where_b29 N n x1 x2 v8 (x4 + (1 : Int32)) q6.2))))
set_option maxRecDepth 20000 in
theorem T_W_where_b29 {g : mj_G} (N : Nat) (e : Nat) (he : 5 ≤ e) : ∀ (n : Nat) (x1 : Int32) (x2 : Int32) (x3 : Int32) (x4 : Int32) (M : mj_M), mj_X g (mj_qI g) "WinterTellers" c_W_where 5 (some .int) e 29 [(0, .ref 0), (1, .int x1), (2, .int x2), (3, .int x3), (4, .int x4)] [] M (F_W_where_b29 N n x1 x2 x3 x4 M) := by
  intro n
  induction n with
  | zero => intro x1 x2 x3 x4 M; exact mj_none
  | succ n ih =>
    intro x1 x2 x3 x4 M
    rw [F_W_where_b29]
    refine mj_iload (pc := 29) (i := 4) rfl dd_W_where_29 ?_
    refine mj_aload_n (pc := 31) (i := 0) rfl dd_W_where_31 ?_
    refine mj_getR (pc := 32) (b := 0) (k := 4) qf_W_42 sh_0 cl_11 rfl (by decide) (r := 13) rfl dd_W_where_32 ?_
    refine mj_getI (pc := 35) (b := 13) (k := 0) qf_W_121 sh_13 cl_0 rfl (by decide) rfl dd_W_where_35 ?_
    refine mj_icmp_ge (pc := 38) (tgt := 68) dd_W_where_38 rfl (fun h5 => ?_) (fun h5 => ?_)
    · refine mj_iload_n (pc := 68) (i := 3) rfl dd_W_where_68 ?_
      exact mj_iret dd_W_where_69 rfl rfl
    · refine mj_aload_n (pc := 41) (i := 0) rfl dd_W_where_41 ?_
      refine mj_getR (pc := 42) (b := 0) (k := 7) qf_W_65 sh_0 cl_11 rfl (by decide) (r := 28) rfl dd_W_where_42 ?_
      refine mj_iload (pc := 45) (i := 4) rfl dd_W_where_45 ?_
      refine mj_iload_n (pc := 47) (i := 1) rfl dd_W_where_47 ?_
      refine mj_callVI (pc := 48) (idx := 188) (b := 28) (As := [.int x4, .int x1]) (st := []) sh_28 cl_9 ev_Stays_now ql_W_188 rfl (Nat.le_of_ble_eq_true rfl) (T_Stays_now (g := g) N e (by omega) x4 x1 M) dd_W_where_48 (fun q6 hq6 => ?_)
      refine mj_iload_n (pc := 51) (i := 2) rfl dd_W_where_51 ?_
      refine mj_icmp_lt (pc := 52) (tgt := 62) dd_W_where_52 rfl (fun h7 => ?_) (fun h7 => ?_)
      · refine mj_iinc (pc := 62) (i := 4) (z := (1 : Int32)) rfl (by decide) (by decide) dd_W_where_62 ?_
        refine mj_L (L' := [(4, .int (x4 + (1 : Int32))), (0, .ref 0), (1, .int x1), (2, .int x2), (3, .int x3)]) [0, 1, 2, 3, 4] rfl ?_
        refine mj_goto (pc := 65) (tgt := 29) dd_W_where_65 rfl ?_
        refine mj_L (L' := [(0, .ref 0), (1, .int x1), (2, .int x2), (3, .int x3), (4, .int (x4 + (1 : Int32)))]) [1, 2, 3, 4, 0] rfl ?_
        exact ih x1 x2 x3 (x4 + (1 : Int32)) q6.2
      · refine mj_iload_n (pc := 55) (i := 3) rfl dd_W_where_55 ?_
        refine mj_iconst (pc := 56) (v := (1 : Int32)) (by decide) dd_W_where_56 ?_
        refine mj_iload (pc := 57) (i := 4) rfl dd_W_where_57 ?_
        refine mj_ishl (pc := 59) dd_W_where_59 ?_
        refine mj_ior (pc := 60) dd_W_where_60 ?_
        refine mj_istore_nL (pc := 61) (by decide) dd_W_where_61 (fun v8 _ => ?_)
        refine mj_L (L' := [(3, .int v8), (0, .ref 0), (1, .int x1), (2, .int x2), (4, .int x4)]) [0, 1, 2, 3, 4] rfl ?_
        refine mj_iinc (pc := 62) (i := 4) (z := (1 : Int32)) rfl (by decide) (by decide) dd_W_where_62 ?_
        refine mj_L (L' := [(4, .int (x4 + (1 : Int32))), (3, .int v8), (0, .ref 0), (1, .int x1), (2, .int x2)]) [0, 1, 2, 3, 4] rfl ?_
        refine mj_goto (pc := 65) (tgt := 29) dd_W_where_65 rfl ?_
        refine mj_L (L' := [(0, .ref 0), (1, .int x1), (2, .int x2), (3, .int v8), (4, .int (x4 + (1 : Int32)))]) [2, 3, 4, 1, 0] rfl ?_
        exact ih x1 x2 v8 (x4 + (1 : Int32)) q6.2
def F_W_where (N : Nat) (x1 : Int32) (x2 : Int32) (M : mj_M) : Option (Int32 × mj_M) :=
    (F_Coast_hasTale x1 M).bind (fun q1 =>
     if q1.1 = (0) then
     (some ((-1 : Int32), q1.2))
     else
     (if x2 < (1 : Int32) then
     (some ((-1 : Int32), q1.2))
     else
     (if x2 ≤ (20 : Int32) then
     (F_W_where_b29 N N x1 x2 (0 : Int32) (0 : Int32) q1.2)
     else
     (some ((-1 : Int32), q1.2)))))
set_option maxRecDepth 20000 in
theorem T_W_where {g : mj_G} (N : Nat) : ∀ d, 6 ≤ d → ∀ (x1 : Int32) (x2 : Int32) (M : mj_M), mj_Mt g (mj_qI g) d y_W_where c_W_where 5 (some .int) [.ref 0, .int x1, .int x2] M (F_W_where N x1 x2 M) := by
  intro d hd x1 x2 M
  obtain ⟨e, rfl⟩ : ∃ e, d = e + 1 := ⟨d - 1, by omega⟩
  have he : 5 ≤ e := by omega
  refine mj_met (by decide +kernel) (Nat.le_of_ble_eq_true rfl) ?_
  unfold F_W_where
  refine mj_L (L' := [(0, .ref 0), (1, .int x1), (2, .int x2)]) [0, 1, 2] rfl ?_
  refine mj_aload_n (pc := 0) (i := 0) rfl dd_W_where_0 ?_
  refine mj_getR (pc := 1) (b := 0) (k := 4) qf_W_42 sh_0 cl_11 rfl (by decide) (r := 13) rfl dd_W_where_1 ?_
  refine mj_iload_n (pc := 4) (i := 1) rfl dd_W_where_4 ?_
  refine mj_callVI (pc := 5) (idx := 163) (b := 13) (As := [.int x1]) (st := []) sh_13 cl_0 ev_Coast_hasTale ql_W_163 rfl (Nat.le_of_ble_eq_true rfl) (T_Coast_hasTale (g := g) e (by omega) x1 M) dd_W_where_5 (fun q1 hq1 => ?_)
  refine mj_if_eq (pc := 8) (tgt := 22) dd_W_where_8 rfl (fun h2 => ?_) (fun h2 => ?_)
  · refine mj_iconst (pc := 22) (v := (-1 : Int32)) (by decide) dd_W_where_22 ?_
    exact mj_iret dd_W_where_23 rfl rfl
  · refine mj_iload_n (pc := 11) (i := 2) rfl dd_W_where_11 ?_
    refine mj_iconst (pc := 12) (v := (1 : Int32)) (by decide) dd_W_where_12 ?_
    refine mj_icmp_lt (pc := 13) (tgt := 22) dd_W_where_13 rfl (fun h3 => ?_) (fun h3 => ?_)
    · refine mj_iconst (pc := 22) (v := (-1 : Int32)) (by decide) dd_W_where_22 ?_
      exact mj_iret dd_W_where_23 rfl rfl
    · refine mj_iload_n (pc := 16) (i := 2) rfl dd_W_where_16 ?_
      refine mj_bipush (pc := 17) (v := (20 : Int32)) (by decide) dd_W_where_17 ?_
      refine mj_icmp_le (pc := 19) (tgt := 24) dd_W_where_19 rfl (fun h4 => ?_) (fun h4 => ?_)
      · refine mj_iconst (pc := 24) (v := (0 : Int32)) (by decide) dd_W_where_24 ?_
        refine mj_istore_n (pc := 25) (by decide) dd_W_where_25 ?_
        refine mj_L (L' := [(3, .int (0 : Int32)), (0, .ref 0), (1, .int x1), (2, .int x2)]) [0, 1, 2, 3] rfl ?_
        refine mj_iconst (pc := 26) (v := (0 : Int32)) (by decide) dd_W_where_26 ?_
        refine mj_istore (pc := 27) (by decide) dd_W_where_27 ?_
        refine mj_L (L' := [(4, .int (0 : Int32)), (3, .int (0 : Int32)), (0, .ref 0), (1, .int x1), (2, .int x2)]) [0, 1, 2, 3, 4] rfl ?_
        refine mj_L (L' := [(0, .ref 0), (1, .int x1), (2, .int x2), (3, .int (0 : Int32)), (4, .int (0 : Int32))]) [2, 3, 4, 1, 0] rfl ?_
        exact T_W_where_b29 (g := g) N e he N x1 x2 (0 : Int32) (0 : Int32) q1.2
      · refine mj_iconst (pc := 22) (v := (-1 : Int32)) (by decide) dd_W_where_22 ?_
        exact mj_iret dd_W_where_23 rfl rfl
def F_M_where (N : Nat) (x1 : Int32) (x2 : Int32) (M : mj_M) : Option (Int32 × mj_M) :=
    (F_M_isTale x1 M).bind (fun q1 =>
     if q1.1 = (0) then
     (some ((-1 : Int32), q1.2))
     else
     ((F_M_in x2 (1 : Int32) (20 : Int32) q1.2).bind (fun q3 =>
     if q3.1 = (0) then
     (some ((-1 : Int32), q3.2))
     else
     ((F_M_whereOf N x1 x2 q3.2).bind (fun q5 =>
     some (q5.1, q5.2))))))
set_option maxRecDepth 20000 in
theorem T_M_where {g : mj_G} (N : Nat) : ∀ d, 8 ≤ d → ∀ (x1 : Int32) (x2 : Int32) (M : mj_M), mj_Mt g (mj_qI g) d y_M_where c_M_where 3 (some .int) [.ref 48, .int x1, .int x2] M (F_M_where N x1 x2 M) := by
  intro d hd x1 x2 M
  obtain ⟨e, rfl⟩ : ∃ e, d = e + 1 := ⟨d - 1, by omega⟩
  have he : 7 ≤ e := by omega
  refine mj_met (by decide +kernel) (Nat.le_of_ble_eq_true rfl) ?_
  unfold F_M_where
  refine mj_L (L' := [(0, .ref 48), (1, .int x1), (2, .int x2)]) [0, 1, 2] rfl ?_
  refine mj_aload_n (pc := 0) (i := 0) rfl dd_M_where_0 ?_
  refine mj_iload_n (pc := 1) (i := 1) rfl dd_M_where_1 ?_
  refine mj_callVI (pc := 2) (idx := 306) (b := 48) (As := [.int x1]) (st := []) sh_48 cl_12 ev_M_isTale ql_M_306 rfl (Nat.le_of_ble_eq_true rfl) (T_M_isTale (g := g) e (by omega) x1 M) dd_M_where_2 (fun q1 hq1 => ?_)
  refine mj_if_eq (pc := 5) (tgt := 27) dd_M_where_5 rfl (fun h2 => ?_) (fun h2 => ?_)
  · refine mj_iconst (pc := 27) (v := (-1 : Int32)) (by decide) dd_M_where_27 ?_
    exact mj_iret dd_M_where_28 rfl rfl
  · refine mj_iload_n (pc := 8) (i := 2) rfl dd_M_where_8 ?_
    refine mj_iconst (pc := 9) (v := (1 : Int32)) (by decide) dd_M_where_9 ?_
    refine mj_bipush (pc := 10) (v := (20 : Int32)) (by decide) dd_M_where_10 ?_
    refine mj_callSI (pc := 12) (idx := 205) (As := [.int x2, .int (1 : Int32), .int (20 : Int32)]) (st := []) es_M_in ql_M_205 rfl (Nat.le_of_ble_eq_true rfl) (T_M_in (g := g) e (by omega) x2 (1 : Int32) (20 : Int32) q1.2) dd_M_where_12 (fun q3 hq3 => ?_)
    refine mj_if_eq (pc := 15) (tgt := 27) dd_M_where_15 rfl (fun h4 => ?_) (fun h4 => ?_)
    · refine mj_iconst (pc := 27) (v := (-1 : Int32)) (by decide) dd_M_where_27 ?_
      exact mj_iret dd_M_where_28 rfl rfl
    · refine mj_aload_n (pc := 18) (i := 0) rfl dd_M_where_18 ?_
      refine mj_iload_n (pc := 19) (i := 1) rfl dd_M_where_19 ?_
      refine mj_iload_n (pc := 20) (i := 2) rfl dd_M_where_20 ?_
      refine mj_callVI (pc := 21) (idx := 371) (b := 48) (As := [.int x1, .int x2]) (st := []) sh_48 cl_12 ev_M_whereOf ql_M_371 rfl (Nat.le_of_ble_eq_true rfl) (T_M_whereOf (g := g) N e (by omega) x1 x2 q3.2) dd_M_where_21 (fun q5 hq5 => ?_)
      refine mj_goto (pc := 24) (tgt := 28) dd_M_where_24 rfl ?_
      exact mj_iret dd_M_where_28 rfl rfl
def F_Plans_findBest_c36_b12 (N : Nat) : Nat → Int32 → Int32 → mj_M → Option (mj_M)
  | 0, _, _, _ => none
  | n + 1, x1, x3, M =>
    if (M 13 1) ≤ x3 then
     (some M)
     else
     ((F_Stand_owns x3 M).bind (fun q4 =>
     if q4.1 = (0) then
     (F_Plans_findBest_c36_b12 N n x1 (x3 + (1 : Int32)) q4.2)
     else
     (mj_ck ((x1 * (6 : Int32)) + x3) 36 (
     mj_ck x3 6 (
     (F_Stays_by N x1 x3 (q4.2 36 ((x1 * (6 : Int32)) + x3).toNatClampNeg) (q4.2 21 x3.toNatClampNeg) q4.2).bind (fun q6 =>
     if q6.1 ≤ (q6.2 33 1) then
     (F_Plans_findBest_c36_b12 N n x1 (x3 + (1 : Int32)) q6.2)
     else
     (mj_lt (mj_u q6.2 33 1 q6.1) (fun M8 =>
     mj_lt (mj_u M8 33 0 x3) (fun M9 =>
     F_Plans_findBest_c36_b12 N n x1 (x3 + (1 : Int32)) M9)))))))))
set_option maxRecDepth 20000 in
theorem T_Plans_findBest_c36_b12 {g : mj_G} (N : Nat) (e : Nat) (he : 4 ≤ e) : ∀ (n : Nat) (x1 : Int32) (x3 : Int32) (M : mj_M), mj_X g (mj_qV g) "WinterTellers$Plans" c_Plans_findBest 5 none e 12 [(0, .ref 33), (1, .int x1), (2, .ref 36), (3, .int x3)] [] M (F_Plans_findBest_c36_b12 N n x1 x3 M) := by
  intro n
  induction n with
  | zero => intro x1 x3 M; exact mj_none
  | succ n ih =>
    intro x1 x3 M
    rw [F_Plans_findBest_c36_b12]
    refine mj_iload_n (pc := 12) (i := 3) rfl dd_Plans_findBest_12 ?_
    refine mj_aload_n (pc := 13) (i := 0) rfl dd_Plans_findBest_13 ?_
    refine mj_getR (pc := 14) (b := 33) (k := 7) qf_Plans_24 sh_33 cl_7 rfl (by decide) (r := 13) rfl dd_Plans_findBest_14 ?_
    refine mj_getI (pc := 17) (b := 13) (k := 1) qf_Plans_43 sh_13 cl_0 rfl (by decide) rfl dd_Plans_findBest_17 ?_
    refine mj_icmp_ge (pc := 20) (tgt := 88) dd_Plans_findBest_20 rfl (fun h3 => ?_) (fun h3 => ?_)
    · exact mj_vret dd_Plans_findBest_88 rfl rfl
    · refine mj_aload_n (pc := 23) (i := 0) rfl dd_Plans_findBest_23 ?_
      refine mj_getR (pc := 24) (b := 33) (k := 8) qf_Plans_28 sh_33 cl_7 rfl (by decide) (r := 20) rfl dd_Plans_findBest_24 ?_
      refine mj_iload_n (pc := 27) (i := 3) rfl dd_Plans_findBest_27 ?_
      refine mj_callVI (pc := 28) (idx := 48) (b := 20) (As := [.int x3]) (st := []) sh_20 cl_8 ev_Stand_owns ql_Plans_48 rfl (Nat.le_of_ble_eq_true rfl) (T_Stand_owns (g := g) e (by omega) x3 M) dd_Plans_findBest_28 (fun q4 hq4 => ?_)
      refine mj_if_eq (pc := 31) (tgt := 82) dd_Plans_findBest_31 rfl (fun h5 => ?_) (fun h5 => ?_)
      · refine mj_iinc (pc := 82) (i := 3) (z := (1 : Int32)) rfl (by decide) (by decide) dd_Plans_findBest_82 ?_
        refine mj_L (L' := [(3, .int (x3 + (1 : Int32))), (0, .ref 33), (1, .int x1), (2, .ref 36)]) [0, 1, 2, 3] rfl ?_
        refine mj_goto (pc := 85) (tgt := 12) dd_Plans_findBest_85 rfl ?_
        refine mj_L (L' := [(0, .ref 33), (1, .int x1), (2, .ref 36), (3, .int (x3 + (1 : Int32)))]) [1, 2, 3, 0] rfl ?_
        exact ih x1 (x3 + (1 : Int32)) q4.2
      · refine mj_aload_n (pc := 34) (i := 0) rfl dd_Plans_findBest_34 ?_
        refine mj_getR (pc := 35) (b := 33) (k := 9) qf_Plans_32 sh_33 cl_7 rfl (by decide) (r := 28) rfl dd_Plans_findBest_35 ?_
        refine mj_iload_n (pc := 38) (i := 1) rfl dd_Plans_findBest_38 ?_
        refine mj_iload_n (pc := 39) (i := 3) rfl dd_Plans_findBest_39 ?_
        refine mj_aload_n (pc := 40) (i := 2) rfl dd_Plans_findBest_40 ?_
        refine mj_iload_n (pc := 41) (i := 1) rfl dd_Plans_findBest_41 ?_
        refine mj_bipush (pc := 42) (v := (6 : Int32)) (by decide) dd_Plans_findBest_42 ?_
        refine mj_imul (pc := 44) dd_Plans_findBest_44 ?_
        refine mj_iload_n (pc := 45) (i := 3) rfl dd_Plans_findBest_45 ?_
        refine mj_iadd (pc := 46) dd_Plans_findBest_46 ?_
        refine mj_iald (pc := 47) sh_36 dd_Plans_findBest_47 ?_
        refine mj_aload_n (pc := 48) (i := 0) rfl dd_Plans_findBest_48 ?_
        refine mj_getR (pc := 49) (b := 33) (k := 8) qf_Plans_28 sh_33 cl_7 rfl (by decide) (r := 20) rfl dd_Plans_findBest_49 ?_
        refine mj_getR (pc := 52) (b := 20) (k := 7) qf_Plans_54 sh_20 cl_8 rfl (by decide) (r := 21) rfl dd_Plans_findBest_52 ?_
        refine mj_iload_n (pc := 55) (i := 3) rfl dd_Plans_findBest_55 ?_
        refine mj_iald (pc := 56) sh_21 dd_Plans_findBest_56 ?_
        refine mj_callVI (pc := 57) (idx := 57) (b := 28) (As := [.int x1, .int x3, .int (q4.2 36 ((x1 * (6 : Int32)) + x3).toNatClampNeg), .int (q4.2 21 x3.toNatClampNeg)]) (st := []) sh_28 cl_9 ev_Stays_by ql_Plans_57 rfl (Nat.le_of_ble_eq_true rfl) (T_Stays_by (g := g) N e (by omega) x1 x3 (q4.2 36 ((x1 * (6 : Int32)) + x3).toNatClampNeg) (q4.2 21 x3.toNatClampNeg) q4.2) dd_Plans_findBest_57 (fun q6 hq6 => ?_)
        refine mj_istore (pc := 60) (by decide) dd_Plans_findBest_60 ?_
        refine mj_L (L' := [(4, .int q6.1), (0, .ref 33), (1, .int x1), (2, .ref 36), (3, .int x3)]) [0, 1, 2, 3, 4] rfl ?_
        refine mj_iload (pc := 62) (i := 4) rfl dd_Plans_findBest_62 ?_
        refine mj_aload_n (pc := 64) (i := 0) rfl dd_Plans_findBest_64 ?_
        refine mj_getI (pc := 65) (b := 33) (k := 1) qf_Plans_40 sh_33 cl_7 rfl (by decide) rfl dd_Plans_findBest_65 ?_
        refine mj_icmp_le (pc := 68) (tgt := 82) dd_Plans_findBest_68 rfl (fun h7 => ?_) (fun h7 => ?_)
        · refine mj_iinc (pc := 82) (i := 3) (z := (1 : Int32)) rfl (by decide) (by decide) dd_Plans_findBest_82 ?_
          refine mj_L (L' := [(3, .int (x3 + (1 : Int32))), (0, .ref 33), (1, .int x1), (2, .ref 36)]) [0, 2, 3, 4] rfl ?_
          refine mj_goto (pc := 85) (tgt := 12) dd_Plans_findBest_85 rfl ?_
          refine mj_L (L' := [(0, .ref 33), (1, .int x1), (2, .ref 36), (3, .int (x3 + (1 : Int32)))]) [1, 2, 3, 0] rfl ?_
          exact ih x1 (x3 + (1 : Int32)) q6.2
        · refine mj_aload_n (pc := 71) (i := 0) rfl dd_Plans_findBest_71 ?_
          refine mj_iload (pc := 72) (i := 4) rfl dd_Plans_findBest_72 ?_
          refine mj_putI (pc := 74) (b := 33) (k := 1) qf_Plans_40 sh_33 cl_7 rfl (by decide) (by decide) rfl rfl rfl dd_Plans_findBest_74 (fun M8 _ => ?_)
          refine mj_aload_n (pc := 77) (i := 0) rfl dd_Plans_findBest_77 ?_
          refine mj_iload_n (pc := 78) (i := 3) rfl dd_Plans_findBest_78 ?_
          refine mj_putI (pc := 79) (b := 33) (k := 0) qf_Plans_36 sh_33 cl_7 rfl (by decide) (by decide) rfl rfl rfl dd_Plans_findBest_79 (fun M9 _ => ?_)
          refine mj_iinc (pc := 82) (i := 3) (z := (1 : Int32)) rfl (by decide) (by decide) dd_Plans_findBest_82 ?_
          refine mj_L (L' := [(3, .int (x3 + (1 : Int32))), (0, .ref 33), (1, .int x1), (2, .ref 36)]) [0, 2, 3, 4] rfl ?_
          refine mj_goto (pc := 85) (tgt := 12) dd_Plans_findBest_85 rfl ?_
          refine mj_L (L' := [(0, .ref 33), (1, .int x1), (2, .ref 36), (3, .int (x3 + (1 : Int32)))]) [1, 2, 3, 0] rfl ?_
          exact ih x1 (x3 + (1 : Int32)) M9
def F_Plans_findBest_c36 (N : Nat) (x1 : Int32) (M : mj_M) : Option (mj_M) :=
    mj_lt (mj_u M 33 0 (-1 : Int32)) (fun M1 =>
     mj_lt (mj_u M1 33 1 (-1 : Int32)) (fun M2 =>
     F_Plans_findBest_c36_b12 N N x1 (0 : Int32) M2))
set_option maxRecDepth 20000 in
theorem T_Plans_findBest_c36 {g : mj_G} (N : Nat) : ∀ d, 5 ≤ d → ∀ (x1 : Int32) (M : mj_M), mj_Mt g (mj_qV g) d y_Plans_findBest c_Plans_findBest 5 none [.ref 33, .int x1, .ref 36] M (F_Plans_findBest_c36 N x1 M) := by
  intro d hd x1 M
  obtain ⟨e, rfl⟩ : ∃ e, d = e + 1 := ⟨d - 1, by omega⟩
  have he : 4 ≤ e := by omega
  refine mj_met (by decide +kernel) (Nat.le_of_ble_eq_true rfl) ?_
  unfold F_Plans_findBest_c36
  refine mj_L (L' := [(0, .ref 33), (1, .int x1), (2, .ref 36)]) [0, 1, 2] rfl ?_
  refine mj_aload_n (pc := 0) (i := 0) rfl dd_Plans_findBest_0 ?_
  refine mj_iconst (pc := 1) (v := (-1 : Int32)) (by decide) dd_Plans_findBest_1 ?_
  refine mj_putI (pc := 2) (b := 33) (k := 0) qf_Plans_36 sh_33 cl_7 rfl (by decide) (by decide) rfl rfl rfl dd_Plans_findBest_2 (fun M1 _ => ?_)
  refine mj_aload_n (pc := 5) (i := 0) rfl dd_Plans_findBest_5 ?_
  refine mj_iconst (pc := 6) (v := (-1 : Int32)) (by decide) dd_Plans_findBest_6 ?_
  refine mj_putI (pc := 7) (b := 33) (k := 1) qf_Plans_40 sh_33 cl_7 rfl (by decide) (by decide) rfl rfl rfl dd_Plans_findBest_7 (fun M2 _ => ?_)
  refine mj_iconst (pc := 10) (v := (0 : Int32)) (by decide) dd_Plans_findBest_10 ?_
  refine mj_istore_n (pc := 11) (by decide) dd_Plans_findBest_11 ?_
  refine mj_L (L' := [(3, .int (0 : Int32)), (0, .ref 33), (1, .int x1), (2, .ref 36)]) [0, 1, 2, 3] rfl ?_
  refine mj_L (L' := [(0, .ref 33), (1, .int x1), (2, .ref 36), (3, .int (0 : Int32))]) [1, 2, 3, 0] rfl ?_
  exact T_Plans_findBest_c36_b12 (g := g) N e he N x1 (0 : Int32) M2
def F_Plans_tellBestOnRound (N : Nat) (x1 : Int32) (M : mj_M) : Option (mj_M) :=
    (F_Plans_findBest_c36 N x1 M).bind (fun q1 =>
     if (q1 33 0) = (-1 : Int32) then
     (some q1)
     else
     (mj_lt ((x1 * (6 : Int32)) + (q1 33 0)) (fun v3 =>
     mj_ck v3 36 (
     (F_Stand_heardOnceMore (q1 36 v3.toNatClampNeg) q1).bind (fun q4 =>
     mj_ck v3 36 (mj_lt (mj_u q4.2 36 v3.toNatClampNeg q4.1) (fun M5 =>
     mj_lt (mj_u M5 33 4 ((M5 33 4) + (1 : Int32))) (fun M6 =>
     mj_lt (mj_u M6 33 5 ((M6 33 5) + (M6 33 1))) (fun M7 =>
     (F_Stand_breadAfter (M7 33 6) (M7 33 1) M7).bind (fun q8 =>
     mj_lt (mj_u q8.2 33 6 q8.1) (fun M9 =>
     some M9)))))))))))
set_option maxRecDepth 20000 in
theorem T_Plans_tellBestOnRound {g : mj_G} (N : Nat) : ∀ d, 6 ≤ d → ∀ (x1 : Int32) (M : mj_M), mj_Mt g (mj_qV g) d y_Plans_tellBestOnRound c_Plans_tellBestOnRound 3 none [.ref 33, .int x1] M (F_Plans_tellBestOnRound N x1 M) := by
  intro d hd x1 M
  obtain ⟨e, rfl⟩ : ∃ e, d = e + 1 := ⟨d - 1, by omega⟩
  have he : 5 ≤ e := by omega
  refine mj_met (by decide +kernel) (Nat.le_of_ble_eq_true rfl) ?_
  unfold F_Plans_tellBestOnRound
  refine mj_L (L' := [(0, .ref 33), (1, .int x1)]) [0, 1] rfl ?_
  refine mj_aload_n (pc := 0) (i := 0) rfl dd_Plans_tellBestOnRound_0 ?_
  refine mj_iload_n (pc := 1) (i := 1) rfl dd_Plans_tellBestOnRound_1 ?_
  refine mj_aload_n (pc := 2) (i := 0) rfl dd_Plans_tellBestOnRound_2 ?_
  refine mj_getR (pc := 3) (b := 33) (k := 12) qf_Plans_18 sh_33 cl_7 rfl (by decide) (r := 36) rfl dd_Plans_tellBestOnRound_3 ?_
  refine mj_callVV (pc := 6) (idx := 166) (b := 33) (As := [.int x1, .ref 36]) (st := []) sh_33 cl_7 ev_Plans_findBest ql_Plans_166 rfl (Nat.le_of_ble_eq_true rfl) (T_Plans_findBest_c36 (g := g) N e (by omega) x1 M) dd_Plans_tellBestOnRound_6 (fun q1 hq1 => ?_)
  refine mj_aload_n (pc := 9) (i := 0) rfl dd_Plans_tellBestOnRound_9 ?_
  refine mj_getI (pc := 10) (b := 33) (k := 0) qf_Plans_36 sh_33 cl_7 rfl (by decide) rfl dd_Plans_tellBestOnRound_10 ?_
  refine mj_iconst (pc := 13) (v := (-1 : Int32)) (by decide) dd_Plans_tellBestOnRound_13 ?_
  refine mj_icmp_ne (pc := 14) (tgt := 18) dd_Plans_tellBestOnRound_14 rfl (fun h2 => ?_) (fun h2 => ?_)
  · exact mj_vret dd_Plans_tellBestOnRound_17 rfl rfl
  · refine mj_iload_n (pc := 18) (i := 1) rfl dd_Plans_tellBestOnRound_18 ?_
    refine mj_bipush (pc := 19) (v := (6 : Int32)) (by decide) dd_Plans_tellBestOnRound_19 ?_
    refine mj_imul (pc := 21) dd_Plans_tellBestOnRound_21 ?_
    refine mj_aload_n (pc := 22) (i := 0) rfl dd_Plans_tellBestOnRound_22 ?_
    refine mj_getI (pc := 23) (b := 33) (k := 0) qf_Plans_36 sh_33 cl_7 rfl (by decide) rfl dd_Plans_tellBestOnRound_23 ?_
    refine mj_iadd (pc := 26) dd_Plans_tellBestOnRound_26 ?_
    refine mj_istore_nL (pc := 27) (by decide) dd_Plans_tellBestOnRound_27 (fun v3 _ => ?_)
    refine mj_L (L' := [(2, .int v3), (0, .ref 33)]) [0, 1] rfl ?_
    refine mj_aload_n (pc := 28) (i := 0) rfl dd_Plans_tellBestOnRound_28 ?_
    refine mj_getR (pc := 29) (b := 33) (k := 12) qf_Plans_18 sh_33 cl_7 rfl (by decide) (r := 36) rfl dd_Plans_tellBestOnRound_29 ?_
    refine mj_iload_n (pc := 32) (i := 2) rfl dd_Plans_tellBestOnRound_32 ?_
    refine mj_aload_n (pc := 33) (i := 0) rfl dd_Plans_tellBestOnRound_33 ?_
    refine mj_getR (pc := 34) (b := 33) (k := 12) qf_Plans_18 sh_33 cl_7 rfl (by decide) (r := 36) rfl dd_Plans_tellBestOnRound_34 ?_
    refine mj_iload_n (pc := 37) (i := 2) rfl dd_Plans_tellBestOnRound_37 ?_
    refine mj_iald (pc := 38) sh_36 dd_Plans_tellBestOnRound_38 ?_
    refine mj_callSI (pc := 39) (idx := 170) (As := [.int (q1 36 v3.toNatClampNeg)]) (st := [.int v3, .ref 36]) es_Stand_heardOnceMore ql_Plans_170 rfl (Nat.le_of_ble_eq_true rfl) (T_Stand_heardOnceMore (g := g) e (by omega) (q1 36 v3.toNatClampNeg) q1) dd_Plans_tellBestOnRound_39 (fun q4 hq4 => ?_)
    refine mj_iast (pc := 42) sh_36 dd_Plans_tellBestOnRound_42 (fun M5 _ => ?_)
    refine mj_aload_n (pc := 43) (i := 0) rfl dd_Plans_tellBestOnRound_43 ?_
    refine mj_dup (pc := 44) rfl dd_Plans_tellBestOnRound_44 ?_
    refine mj_getI (pc := 45) (b := 33) (k := 4) qf_Plans_141 sh_33 cl_7 rfl (by decide) rfl dd_Plans_tellBestOnRound_45 ?_
    refine mj_iconst (pc := 48) (v := (1 : Int32)) (by decide) dd_Plans_tellBestOnRound_48 ?_
    refine mj_iadd (pc := 49) dd_Plans_tellBestOnRound_49 ?_
    refine mj_putI (pc := 50) (b := 33) (k := 4) qf_Plans_141 sh_33 cl_7 rfl (by decide) (by decide) rfl rfl rfl dd_Plans_tellBestOnRound_50 (fun M6 _ => ?_)
    refine mj_aload_n (pc := 53) (i := 0) rfl dd_Plans_tellBestOnRound_53 ?_
    refine mj_dup (pc := 54) rfl dd_Plans_tellBestOnRound_54 ?_
    refine mj_getI (pc := 55) (b := 33) (k := 5) qf_Plans_144 sh_33 cl_7 rfl (by decide) rfl dd_Plans_tellBestOnRound_55 ?_
    refine mj_aload_n (pc := 58) (i := 0) rfl dd_Plans_tellBestOnRound_58 ?_
    refine mj_getI (pc := 59) (b := 33) (k := 1) qf_Plans_40 sh_33 cl_7 rfl (by decide) rfl dd_Plans_tellBestOnRound_59 ?_
    refine mj_iadd (pc := 62) dd_Plans_tellBestOnRound_62 ?_
    refine mj_putI (pc := 63) (b := 33) (k := 5) qf_Plans_144 sh_33 cl_7 rfl (by decide) (by decide) rfl rfl rfl dd_Plans_tellBestOnRound_63 (fun M7 _ => ?_)
    refine mj_aload_n (pc := 66) (i := 0) rfl dd_Plans_tellBestOnRound_66 ?_
    refine mj_aload_n (pc := 67) (i := 0) rfl dd_Plans_tellBestOnRound_67 ?_
    refine mj_getI (pc := 68) (b := 33) (k := 6) qf_Plans_147 sh_33 cl_7 rfl (by decide) rfl dd_Plans_tellBestOnRound_68 ?_
    refine mj_aload_n (pc := 71) (i := 0) rfl dd_Plans_tellBestOnRound_71 ?_
    refine mj_getI (pc := 72) (b := 33) (k := 1) qf_Plans_40 sh_33 cl_7 rfl (by decide) rfl dd_Plans_tellBestOnRound_72 ?_
    refine mj_callSI (pc := 75) (idx := 91) (As := [.int (M7 33 6), .int (M7 33 1)]) (st := [.ref 33]) es_Stand_breadAfter ql_Plans_91 rfl (Nat.le_of_ble_eq_true rfl) (T_Stand_breadAfter (g := g) e (by omega) (M7 33 6) (M7 33 1) M7) dd_Plans_tellBestOnRound_75 (fun q8 hq8 => ?_)
    refine mj_putI (pc := 78) (b := 33) (k := 6) qf_Plans_147 sh_33 cl_7 rfl (by decide) (by decide) rfl rfl rfl dd_Plans_tellBestOnRound_78 (fun M9 _ => ?_)
    exact mj_vret dd_Plans_tellBestOnRound_81 rfl rfl
def F_Plans_goRound_b100 (N : Nat) (k71 : Int32 → Int32 → Int32 → Int32 → mj_M → Option (mj_M)) (x1 : Int32) (x2 : Int32) (x3 : Int32) (x4 : Int32) (M : mj_M) : Option (mj_M) :=
    mj_lt (mj_u M 33 6 ((M 33 6) - (1 : Int32))) (fun M13 =>
     mj_lt (x2 + x3) (fun v14 =>
     if v14 = x1 then
     (k71 x1 v14 (-1 : Int32) (x4 + (1 : Int32)) M13)
     else
     (k71 x1 v14 x3 (x4 + (1 : Int32)) M13)))
set_option maxRecDepth 20000 in
theorem T_Plans_goRound_b100 {g : mj_G} (N : Nat) (e : Nat) (he : 6 ≤ e) (k71 : Int32 → Int32 → Int32 → Int32 → mj_M → Option (mj_M)) (hk71 : ∀ (x1 : Int32) (x2 : Int32) (x3 : Int32) (x4 : Int32) (M : mj_M), mj_X g (mj_qV g) "WinterTellers$Plans" c_Plans_goRound 5 none e 71 [(0, .ref 33), (1, .int x1), (2, .int x2), (3, .int x3), (4, .int x4)] [] M (k71 x1 x2 x3 x4 M)) (x1 : Int32) (x2 : Int32) (x3 : Int32) (x4 : Int32) (M : mj_M) : mj_X g (mj_qV g) "WinterTellers$Plans" c_Plans_goRound 5 none e 100 [(0, .ref 33), (1, .int x1), (2, .int x2), (3, .int x3), (4, .int x4)] [] M (F_Plans_goRound_b100 N k71 x1 x2 x3 x4 M) := by
  unfold F_Plans_goRound_b100
  refine mj_aload_n (pc := 100) (i := 0) rfl dd_Plans_goRound_100 ?_
  refine mj_dup (pc := 101) rfl dd_Plans_goRound_101 ?_
  refine mj_getI (pc := 102) (b := 33) (k := 6) qf_Plans_147 sh_33 cl_7 rfl (by decide) rfl dd_Plans_goRound_102 ?_
  refine mj_iconst (pc := 105) (v := (1 : Int32)) (by decide) dd_Plans_goRound_105 ?_
  refine mj_isub (pc := 106) dd_Plans_goRound_106 ?_
  refine mj_putI (pc := 107) (b := 33) (k := 6) qf_Plans_147 sh_33 cl_7 rfl (by decide) (by decide) rfl rfl rfl dd_Plans_goRound_107 (fun M13 _ => ?_)
  refine mj_iload_n (pc := 110) (i := 2) rfl dd_Plans_goRound_110 ?_
  refine mj_iload_n (pc := 111) (i := 3) rfl dd_Plans_goRound_111 ?_
  refine mj_iadd (pc := 112) dd_Plans_goRound_112 ?_
  refine mj_istore_nL (pc := 113) (by decide) dd_Plans_goRound_113 (fun v14 _ => ?_)
  refine mj_L (L' := [(2, .int v14), (0, .ref 33), (1, .int x1), (3, .int x3), (4, .int x4)]) [0, 1, 2, 3, 4] rfl ?_
  refine mj_iload_n (pc := 114) (i := 2) rfl dd_Plans_goRound_114 ?_
  refine mj_iload_n (pc := 115) (i := 1) rfl dd_Plans_goRound_115 ?_
  refine mj_icmp_ne (pc := 116) (tgt := 121) dd_Plans_goRound_116 rfl (fun h15 => ?_) (fun h15 => ?_)
  · refine mj_iconst (pc := 119) (v := (-1 : Int32)) (by decide) dd_Plans_goRound_119 ?_
    refine mj_istore_n (pc := 120) (by decide) dd_Plans_goRound_120 ?_
    refine mj_L (L' := [(3, .int (-1 : Int32)), (2, .int v14), (0, .ref 33), (1, .int x1), (4, .int x4)]) [0, 1, 2, 3, 4] rfl ?_
    refine mj_iinc (pc := 121) (i := 4) (z := (1 : Int32)) rfl (by decide) (by decide) dd_Plans_goRound_121 ?_
    refine mj_L (L' := [(4, .int (x4 + (1 : Int32))), (3, .int (-1 : Int32)), (2, .int v14), (0, .ref 33), (1, .int x1)]) [0, 1, 2, 3, 4] rfl ?_
    refine mj_goto (pc := 124) (tgt := 71) dd_Plans_goRound_124 rfl ?_
    refine mj_L (L' := [(0, .ref 33), (1, .int x1), (2, .int v14), (3, .int (-1 : Int32)), (4, .int (x4 + (1 : Int32)))]) [3, 4, 2, 1, 0] rfl ?_
    exact hk71 x1 v14 (-1 : Int32) (x4 + (1 : Int32)) M13
  · refine mj_iinc (pc := 121) (i := 4) (z := (1 : Int32)) rfl (by decide) (by decide) dd_Plans_goRound_121 ?_
    refine mj_L (L' := [(4, .int (x4 + (1 : Int32))), (2, .int v14), (0, .ref 33), (1, .int x1), (3, .int x3)]) [0, 1, 2, 3, 4] rfl ?_
    refine mj_goto (pc := 124) (tgt := 71) dd_Plans_goRound_124 rfl ?_
    refine mj_L (L' := [(0, .ref 33), (1, .int x1), (2, .int v14), (3, .int x3), (4, .int (x4 + (1 : Int32)))]) [2, 3, 1, 4, 0] rfl ?_
    exact hk71 x1 v14 x3 (x4 + (1 : Int32)) M13
def F_Plans_goRound_b71 (N : Nat) : Nat → Int32 → Int32 → Int32 → Int32 → mj_M → Option (mj_M)
  | 0, _, _, _, _, _ => none
  | n + 1, x1, x2, x3, x4, M =>
    if (12 : Int32) ≤ x4 then
     (some M)
     else
     ((F_Plans_tellBestOnRound N x2 M).bind (fun q9 =>
     if (q9 33 6) < (1 : Int32) then
     (some q9)
     else
     (if x2 = (0) then
     (if (0) ≤ x3 then
     (F_Plans_goRound_b100 N (F_Plans_goRound_b71 N n) x1 x2 x3 x4 q9)
     else
     (some q9))
     else
     (F_Plans_goRound_b100 N (F_Plans_goRound_b71 N n) x1 x2 x3 x4 q9))))
set_option maxRecDepth 20000 in
theorem T_Plans_goRound_b71 {g : mj_G} (N : Nat) (e : Nat) (he : 6 ≤ e) : ∀ (n : Nat) (x1 : Int32) (x2 : Int32) (x3 : Int32) (x4 : Int32) (M : mj_M), mj_X g (mj_qV g) "WinterTellers$Plans" c_Plans_goRound 5 none e 71 [(0, .ref 33), (1, .int x1), (2, .int x2), (3, .int x3), (4, .int x4)] [] M (F_Plans_goRound_b71 N n x1 x2 x3 x4 M) := by
  intro n
  induction n with
  | zero => intro x1 x2 x3 x4 M; exact mj_none
  | succ n ih =>
    intro x1 x2 x3 x4 M
    rw [F_Plans_goRound_b71]
    refine mj_iload (pc := 71) (i := 4) rfl dd_Plans_goRound_71 ?_
    refine mj_bipush (pc := 73) (v := (12 : Int32)) (by decide) dd_Plans_goRound_73 ?_
    refine mj_icmp_ge (pc := 75) (tgt := 127) dd_Plans_goRound_75 rfl (fun h8 => ?_) (fun h8 => ?_)
    · exact mj_vret dd_Plans_goRound_127 rfl rfl
    · refine mj_aload_n (pc := 78) (i := 0) rfl dd_Plans_goRound_78 ?_
      refine mj_iload_n (pc := 79) (i := 2) rfl dd_Plans_goRound_79 ?_
      refine mj_callVV (pc := 80) (idx := 162) (b := 33) (As := [.int x2]) (st := []) sh_33 cl_7 ev_Plans_tellBestOnRound ql_Plans_162 rfl (Nat.le_of_ble_eq_true rfl) (T_Plans_tellBestOnRound (g := g) N e (by omega) x2 M) dd_Plans_goRound_80 (fun q9 hq9 => ?_)
      refine mj_aload_n (pc := 83) (i := 0) rfl dd_Plans_goRound_83 ?_
      refine mj_getI (pc := 84) (b := 33) (k := 6) qf_Plans_147 sh_33 cl_7 rfl (by decide) rfl dd_Plans_goRound_84 ?_
      refine mj_iconst (pc := 87) (v := (1 : Int32)) (by decide) dd_Plans_goRound_87 ?_
      refine mj_icmp_lt (pc := 88) (tgt := 99) dd_Plans_goRound_88 rfl (fun h10 => ?_) (fun h10 => ?_)
      · exact mj_vret dd_Plans_goRound_99 rfl rfl
      · refine mj_iload_n (pc := 91) (i := 2) rfl dd_Plans_goRound_91 ?_
        refine mj_if_ne (pc := 92) (tgt := 100) dd_Plans_goRound_92 rfl (fun h11 => ?_) (fun h11 => ?_)
        · refine mj_iload_n (pc := 95) (i := 3) rfl dd_Plans_goRound_95 ?_
          refine mj_if_ge (pc := 96) (tgt := 100) dd_Plans_goRound_96 rfl (fun h12 => ?_) (fun h12 => ?_)
          · refine mj_L (L' := [(0, .ref 33), (1, .int x1), (2, .int x2), (3, .int x3), (4, .int x4)]) [0, 1, 2, 3, 4] rfl ?_
            exact T_Plans_goRound_b100 (g := g) N e he (F_Plans_goRound_b71 N n) ih x1 x2 x3 x4 q9
          · exact mj_vret dd_Plans_goRound_99 rfl rfl
        · refine mj_L (L' := [(0, .ref 33), (1, .int x1), (2, .int x2), (3, .int x3), (4, .int x4)]) [0, 1, 2, 3, 4] rfl ?_
          exact T_Plans_goRound_b100 (g := g) N e he (F_Plans_goRound_b71 N n) ih x1 x2 x3 x4 q9
def F_Plans_goRound (N : Nat) (M : mj_M) : Option (mj_M) :=
    mj_lt (mj_u M 33 4 (0 : Int32)) (fun M1 =>
     mj_lt (mj_u M1 33 5 (0 : Int32)) (fun M2 =>
     mj_lt (mj_u M2 33 6 (M2 20 2)) (fun M3 =>
     mj_ac (0 : Int32) (0 : Int32) (36 : Int32) 36 36 (mj_lt (mj_a M3 36 (va_cpy (M3 22) (M3 36) (0 : Int32).toNatClampNeg (0 : Int32).toNatClampNeg (36 : Int32).toNatClampNeg)) (fun M4 =>
     mj_lt ((M4 13 0) - (1 : Int32)) (fun v5 =>
     mj_lt (M4 20 0) (fun v6 =>
     if v5 ≤ v6 then
     (F_Plans_goRound_b71 N N v5 v6 (-1 : Int32) (0 : Int32) M4)
     else
     (F_Plans_goRound_b71 N N v5 v6 (1 : Int32) (0 : Int32) M4))))))))
set_option maxRecDepth 20000 in
theorem T_Plans_goRound {g : mj_G} (N : Nat) : ∀ d, 7 ≤ d → ∀ (M : mj_M), mj_Mt g (mj_qV g) d y_Plans_goRound c_Plans_goRound 5 none [.ref 33] M (F_Plans_goRound N M) := by
  intro d hd M
  obtain ⟨e, rfl⟩ : ∃ e, d = e + 1 := ⟨d - 1, by omega⟩
  have he : 6 ≤ e := by omega
  refine mj_met (by decide +kernel) (Nat.le_of_ble_eq_true rfl) ?_
  unfold F_Plans_goRound
  refine mj_L (L' := [(0, .ref 33)]) [0] rfl ?_
  refine mj_aload_n (pc := 0) (i := 0) rfl dd_Plans_goRound_0 ?_
  refine mj_iconst (pc := 1) (v := (0 : Int32)) (by decide) dd_Plans_goRound_1 ?_
  refine mj_putI (pc := 2) (b := 33) (k := 4) qf_Plans_141 sh_33 cl_7 rfl (by decide) (by decide) rfl rfl rfl dd_Plans_goRound_2 (fun M1 _ => ?_)
  refine mj_aload_n (pc := 5) (i := 0) rfl dd_Plans_goRound_5 ?_
  refine mj_iconst (pc := 6) (v := (0 : Int32)) (by decide) dd_Plans_goRound_6 ?_
  refine mj_putI (pc := 7) (b := 33) (k := 5) qf_Plans_144 sh_33 cl_7 rfl (by decide) (by decide) rfl rfl rfl dd_Plans_goRound_7 (fun M2 _ => ?_)
  refine mj_aload_n (pc := 10) (i := 0) rfl dd_Plans_goRound_10 ?_
  refine mj_aload_n (pc := 11) (i := 0) rfl dd_Plans_goRound_11 ?_
  refine mj_getR (pc := 12) (b := 33) (k := 8) qf_Plans_28 sh_33 cl_7 rfl (by decide) (r := 20) rfl dd_Plans_goRound_12 ?_
  refine mj_getI (pc := 15) (b := 20) (k := 2) qf_Plans_82 sh_20 cl_8 rfl (by decide) rfl dd_Plans_goRound_15 ?_
  refine mj_putI (pc := 18) (b := 33) (k := 6) qf_Plans_147 sh_33 cl_7 rfl (by decide) (by decide) rfl rfl rfl dd_Plans_goRound_18 (fun M3 _ => ?_)
  refine mj_aload_n (pc := 21) (i := 0) rfl dd_Plans_goRound_21 ?_
  refine mj_getR (pc := 22) (b := 33) (k := 8) qf_Plans_28 sh_33 cl_7 rfl (by decide) (r := 20) rfl dd_Plans_goRound_22 ?_
  refine mj_getR (pc := 25) (b := 20) (k := 8) qf_Plans_150 sh_20 cl_8 rfl (by decide) (r := 22) rfl dd_Plans_goRound_25 ?_
  refine mj_iconst (pc := 28) (v := (0 : Int32)) (by decide) dd_Plans_goRound_28 ?_
  refine mj_aload_n (pc := 29) (i := 0) rfl dd_Plans_goRound_29 ?_
  refine mj_getR (pc := 30) (b := 33) (k := 12) qf_Plans_18 sh_33 cl_7 rfl (by decide) (r := 36) rfl dd_Plans_goRound_30 ?_
  refine mj_iconst (pc := 33) (v := (0 : Int32)) (by decide) dd_Plans_goRound_33 ?_
  refine mj_bipush (pc := 34) (v := (36 : Int32)) (by decide) dd_Plans_goRound_34 ?_
  refine mj_copy (pc := 36) (idx := 153) sh_22 sh_36 qm_Plans_153 (Nat.le_of_ble_eq_true rfl) dd_Plans_goRound_36 (fun M4 _ => ?_)
  refine mj_aload_n (pc := 39) (i := 0) rfl dd_Plans_goRound_39 ?_
  refine mj_getR (pc := 40) (b := 33) (k := 7) qf_Plans_24 sh_33 cl_7 rfl (by decide) (r := 13) rfl dd_Plans_goRound_40 ?_
  refine mj_getI (pc := 43) (b := 13) (k := 0) qf_Plans_63 sh_13 cl_0 rfl (by decide) rfl dd_Plans_goRound_43 ?_
  refine mj_iconst (pc := 46) (v := (1 : Int32)) (by decide) dd_Plans_goRound_46 ?_
  refine mj_isub (pc := 47) dd_Plans_goRound_47 ?_
  refine mj_istore_nL (pc := 48) (by decide) dd_Plans_goRound_48 (fun v5 _ => ?_)
  refine mj_L (L' := [(1, .int v5), (0, .ref 33)]) [0, 1] rfl ?_
  refine mj_aload_n (pc := 49) (i := 0) rfl dd_Plans_goRound_49 ?_
  refine mj_getR (pc := 50) (b := 33) (k := 8) qf_Plans_28 sh_33 cl_7 rfl (by decide) (r := 20) rfl dd_Plans_goRound_50 ?_
  refine mj_getI (pc := 53) (b := 20) (k := 0) qf_Plans_159 sh_20 cl_8 rfl (by decide) rfl dd_Plans_goRound_53 ?_
  refine mj_istore_nL (pc := 56) (by decide) dd_Plans_goRound_56 (fun v6 _ => ?_)
  refine mj_L (L' := [(2, .int v6), (1, .int v5), (0, .ref 33)]) [0, 1, 2] rfl ?_
  refine mj_iload_n (pc := 57) (i := 2) rfl dd_Plans_goRound_57 ?_
  refine mj_iload_n (pc := 58) (i := 1) rfl dd_Plans_goRound_58 ?_
  refine mj_icmp_ge (pc := 59) (tgt := 66) dd_Plans_goRound_59 rfl (fun h7 => ?_) (fun h7 => ?_)
  · refine mj_iconst (pc := 66) (v := (-1 : Int32)) (by decide) dd_Plans_goRound_66 ?_
    refine mj_istore_n (pc := 67) (by decide) dd_Plans_goRound_67 ?_
    refine mj_L (L' := [(3, .int (-1 : Int32)), (2, .int v6), (1, .int v5), (0, .ref 33)]) [0, 1, 2, 3] rfl ?_
    refine mj_iconst (pc := 68) (v := (0 : Int32)) (by decide) dd_Plans_goRound_68 ?_
    refine mj_istore (pc := 69) (by decide) dd_Plans_goRound_69 ?_
    refine mj_L (L' := [(4, .int (0 : Int32)), (3, .int (-1 : Int32)), (2, .int v6), (1, .int v5), (0, .ref 33)]) [0, 1, 2, 3, 4] rfl ?_
    refine mj_L (L' := [(0, .ref 33), (1, .int v5), (2, .int v6), (3, .int (-1 : Int32)), (4, .int (0 : Int32))]) [4, 3, 2, 1, 0] rfl ?_
    exact T_Plans_goRound_b71 (g := g) N e he N v5 v6 (-1 : Int32) (0 : Int32) M4
  · refine mj_iconst (pc := 62) (v := (1 : Int32)) (by decide) dd_Plans_goRound_62 ?_
    refine mj_goto (pc := 63) (tgt := 67) dd_Plans_goRound_63 rfl ?_
    refine mj_istore_n (pc := 67) (by decide) dd_Plans_goRound_67 ?_
    refine mj_L (L' := [(3, .int (1 : Int32)), (2, .int v6), (1, .int v5), (0, .ref 33)]) [0, 1, 2, 3] rfl ?_
    refine mj_iconst (pc := 68) (v := (0 : Int32)) (by decide) dd_Plans_goRound_68 ?_
    refine mj_istore (pc := 69) (by decide) dd_Plans_goRound_69 ?_
    refine mj_L (L' := [(4, .int (0 : Int32)), (3, .int (1 : Int32)), (2, .int v6), (1, .int v5), (0, .ref 33)]) [0, 1, 2, 3, 4] rfl ?_
    refine mj_L (L' := [(0, .ref 33), (1, .int v5), (2, .int v6), (3, .int (1 : Int32)), (4, .int (0 : Int32))]) [4, 3, 2, 1, 0] rfl ?_
    exact T_Plans_goRound_b71 (g := g) N e he N v5 v6 (1 : Int32) (0 : Int32) M4
def F_W_round (N : Nat) (x1 : Int32) (M : mj_M) : Option (Int32 × mj_M) :=
    (F_Coast_isTold M).bind (fun q1 =>
     if q1.1 = (0) then
     (some ((-1 : Int32), q1.2))
     else
     (if x1 < (0) then
     (some ((-1 : Int32), q1.2))
     else
     (if x1 ≤ (2 : Int32) then
     ((F_Plans_goRound N q1.2).bind (fun q5 =>
     if x1 = (0) then
     (some (q5 33 4, q5))
     else
     (if x1 = (1 : Int32) then
     (some (q5 33 5, q5))
     else
     (some (q5 33 6, q5)))))
     else
     (some ((-1 : Int32), q1.2)))))
set_option maxRecDepth 20000 in
theorem T_W_round {g : mj_G} (N : Nat) : ∀ d, 8 ≤ d → ∀ (x1 : Int32) (M : mj_M), mj_Mt g (mj_qI g) d y_W_round c_W_round 2 (some .int) [.ref 0, .int x1] M (F_W_round N x1 M) := by
  intro d hd x1 M
  obtain ⟨e, rfl⟩ : ∃ e, d = e + 1 := ⟨d - 1, by omega⟩
  have he : 7 ≤ e := by omega
  refine mj_met (by decide +kernel) (Nat.le_of_ble_eq_true rfl) ?_
  unfold F_W_round
  refine mj_L (L' := [(0, .ref 0), (1, .int x1)]) [0, 1] rfl ?_
  refine mj_aload_n (pc := 0) (i := 0) rfl dd_W_round_0 ?_
  refine mj_getR (pc := 1) (b := 0) (k := 4) qf_W_42 sh_0 cl_11 rfl (by decide) (r := 13) rfl dd_W_round_1 ?_
  refine mj_callVI (pc := 4) (idx := 235) (b := 13) (As := []) (st := []) sh_13 cl_0 ev_Coast_isTold ql_W_235 rfl (Nat.le_of_ble_eq_true rfl) (T_Coast_isTold (g := g) e (by omega) M) dd_W_round_4 (fun q1 hq1 => ?_)
  refine mj_if_eq (pc := 7) (tgt := 19) dd_W_round_7 rfl (fun h2 => ?_) (fun h2 => ?_)
  · refine mj_iconst (pc := 19) (v := (-1 : Int32)) (by decide) dd_W_round_19 ?_
    exact mj_iret dd_W_round_20 rfl rfl
  · refine mj_iload_n (pc := 10) (i := 1) rfl dd_W_round_10 ?_
    refine mj_if_lt (pc := 11) (tgt := 19) dd_W_round_11 rfl (fun h3 => ?_) (fun h3 => ?_)
    · refine mj_iconst (pc := 19) (v := (-1 : Int32)) (by decide) dd_W_round_19 ?_
      exact mj_iret dd_W_round_20 rfl rfl
    · refine mj_iload_n (pc := 14) (i := 1) rfl dd_W_round_14 ?_
      refine mj_iconst (pc := 15) (v := (2 : Int32)) (by decide) dd_W_round_15 ?_
      refine mj_icmp_le (pc := 16) (tgt := 21) dd_W_round_16 rfl (fun h4 => ?_) (fun h4 => ?_)
      · refine mj_aload_n (pc := 21) (i := 0) rfl dd_W_round_21 ?_
        refine mj_getR (pc := 22) (b := 0) (k := 9) qf_W_83 sh_0 cl_11 rfl (by decide) (r := 33) rfl dd_W_round_22 ?_
        refine mj_callVV (pc := 25) (idx := 331) (b := 33) (As := []) (st := []) sh_33 cl_7 ev_Plans_goRound ql_W_331 rfl (Nat.le_of_ble_eq_true rfl) (T_Plans_goRound (g := g) N e (by omega) q1.2) dd_W_round_25 (fun q5 hq5 => ?_)
        refine mj_iload_n (pc := 28) (i := 1) rfl dd_W_round_28 ?_
        refine mj_if_ne (pc := 29) (tgt := 40) dd_W_round_29 rfl (fun h6 => ?_) (fun h6 => ?_)
        · refine mj_aload_n (pc := 32) (i := 0) rfl dd_W_round_32 ?_
          refine mj_getR (pc := 33) (b := 0) (k := 9) qf_W_83 sh_0 cl_11 rfl (by decide) (r := 33) rfl dd_W_round_33 ?_
          refine mj_getI (pc := 36) (b := 33) (k := 4) qf_W_334 sh_33 cl_7 rfl (by decide) rfl dd_W_round_36 ?_
          exact mj_iret dd_W_round_39 rfl rfl
        · refine mj_iload_n (pc := 40) (i := 1) rfl dd_W_round_40 ?_
          refine mj_iconst (pc := 41) (v := (1 : Int32)) (by decide) dd_W_round_41 ?_
          refine mj_icmp_ne (pc := 42) (tgt := 55) dd_W_round_42 rfl (fun h7 => ?_) (fun h7 => ?_)
          · refine mj_aload_n (pc := 45) (i := 0) rfl dd_W_round_45 ?_
            refine mj_getR (pc := 46) (b := 0) (k := 9) qf_W_83 sh_0 cl_11 rfl (by decide) (r := 33) rfl dd_W_round_46 ?_
            refine mj_getI (pc := 49) (b := 33) (k := 5) qf_W_337 sh_33 cl_7 rfl (by decide) rfl dd_W_round_49 ?_
            refine mj_goto (pc := 52) (tgt := 62) dd_W_round_52 rfl ?_
            exact mj_iret dd_W_round_62 rfl rfl
          · refine mj_aload_n (pc := 55) (i := 0) rfl dd_W_round_55 ?_
            refine mj_getR (pc := 56) (b := 0) (k := 9) qf_W_83 sh_0 cl_11 rfl (by decide) (r := 33) rfl dd_W_round_56 ?_
            refine mj_getI (pc := 59) (b := 33) (k := 6) qf_W_340 sh_33 cl_7 rfl (by decide) rfl dd_W_round_59 ?_
            exact mj_iret dd_W_round_62 rfl rfl
      · refine mj_iconst (pc := 19) (v := (-1 : Int32)) (by decide) dd_W_round_19 ?_
        exact mj_iret dd_W_round_20 rfl rfl
def F_M_tellBest (N : Nat) (M : mj_M) : Option (mj_M) :=
    (F_M_bestIn N (M 65 42) M).bind (fun q1 =>
     if q1.1 = (-1 : Int32) then
     (some q1.2)
     else
     ((F_M_tellNow N q1.1 q1.2).bind (fun q3 =>
     mj_lt (mj_u q3.2 48 42 ((q1.2 48 42) + q3.1)) (fun M4 =>
     mj_lt (mj_u M4 48 41 ((M4 48 41) + (1 : Int32))) (fun M5 =>
     some M5)))))
set_option maxRecDepth 20000 in
theorem T_M_tellBest {g : mj_G} (N : Nat) : ∀ d, 8 ≤ d → ∀ (M : mj_M), mj_Mt g (mj_qV g) d y_M_tellBest c_M_tellBest 2 none [.ref 48] M (F_M_tellBest N M) := by
  intro d hd M
  obtain ⟨e, rfl⟩ : ∃ e, d = e + 1 := ⟨d - 1, by omega⟩
  have he : 7 ≤ e := by omega
  refine mj_met (by decide +kernel) (Nat.le_of_ble_eq_true rfl) ?_
  unfold F_M_tellBest
  refine mj_L (L' := [(0, .ref 48)]) [0] rfl ?_
  refine mj_aload_n (pc := 0) (i := 0) rfl dd_M_tellBest_0 ?_
  refine mj_aload_n (pc := 1) (i := 0) rfl dd_M_tellBest_1 ?_
  refine mj_getR (pc := 2) (b := 48) (k := 27) qf_M_58 sh_48 cl_12 rfl (by decide) (r := 65) rfl dd_M_tellBest_2 ?_
  refine mj_bipush (pc := 5) (v := (42 : Int32)) (by decide) dd_M_tellBest_5 ?_
  refine mj_ialdK (pc := 7) (j := 42) sh_65 (by decide) rfl dd_M_tellBest_7 ?_
  refine mj_callVI (pc := 8) (idx := 349) (b := 48) (As := [.int (M 65 42)]) (st := []) sh_48 cl_12 ev_M_bestIn ql_M_349 rfl (Nat.le_of_ble_eq_true rfl) (T_M_bestIn (g := g) N e (by omega) (M 65 42) M) dd_M_tellBest_8 (fun q1 hq1 => ?_)
  refine mj_istore_n (pc := 11) (by decide) dd_M_tellBest_11 ?_
  refine mj_L (L' := [(1, .int q1.1), (0, .ref 48)]) [0, 1] rfl ?_
  refine mj_iload_n (pc := 12) (i := 1) rfl dd_M_tellBest_12 ?_
  refine mj_iconst (pc := 13) (v := (-1 : Int32)) (by decide) dd_M_tellBest_13 ?_
  refine mj_icmp_eq (pc := 14) (tgt := 41) dd_M_tellBest_14 rfl (fun h2 => ?_) (fun h2 => ?_)
  · exact mj_vret dd_M_tellBest_41 rfl rfl
  · refine mj_aload_n (pc := 17) (i := 0) rfl dd_M_tellBest_17 ?_
    refine mj_dup (pc := 18) rfl dd_M_tellBest_18 ?_
    refine mj_getI (pc := 19) (b := 48) (k := 42) qf_M_393 sh_48 cl_12 rfl (by decide) rfl dd_M_tellBest_19 ?_
    refine mj_aload_n (pc := 22) (i := 0) rfl dd_M_tellBest_22 ?_
    refine mj_iload_n (pc := 23) (i := 1) rfl dd_M_tellBest_23 ?_
    refine mj_callVI (pc := 24) (idx := 293) (b := 48) (As := [.int q1.1]) (st := [.int (q1.2 48 42), .ref 48]) sh_48 cl_12 ev_M_tellNow ql_M_293 rfl (Nat.le_of_ble_eq_true rfl) (T_M_tellNow (g := g) N e (by omega) q1.1 q1.2) dd_M_tellBest_24 (fun q3 hq3 => ?_)
    refine mj_iadd (pc := 27) dd_M_tellBest_27 ?_
    refine mj_putI (pc := 28) (b := 48) (k := 42) qf_M_393 sh_48 cl_12 rfl (by decide) (by decide) rfl rfl rfl dd_M_tellBest_28 (fun M4 _ => ?_)
    refine mj_aload_n (pc := 31) (i := 0) rfl dd_M_tellBest_31 ?_
    refine mj_dup (pc := 32) rfl dd_M_tellBest_32 ?_
    refine mj_getI (pc := 33) (b := 48) (k := 41) qf_M_396 sh_48 cl_12 rfl (by decide) rfl dd_M_tellBest_33 ?_
    refine mj_iconst (pc := 36) (v := (1 : Int32)) (by decide) dd_M_tellBest_36 ?_
    refine mj_iadd (pc := 37) dd_M_tellBest_37 ?_
    refine mj_putI (pc := 38) (b := 48) (k := 41) qf_M_396 sh_48 cl_12 rfl (by decide) (by decide) rfl rfl rfl dd_M_tellBest_38 (fun M5 _ => ?_)
    exact mj_vret dd_M_tellBest_41 rfl rfl
def F_M_stepsTo_b57 (N : Nat) (k0 : Int32 → mj_M → Option (Int32 × mj_M)) (x1 : Int32) (s1 : Int32) (M : mj_M) : Option (Int32 × mj_M) :=
    (F_M_goNow s1 M).bind (fun q4 =>
     (F_M_tellBest N q4).bind (fun q5 =>
     k0 x1 q5))
set_option maxRecDepth 20000 in
theorem T_M_stepsTo_b57 {g : mj_G} (N : Nat) (e : Nat) (he : 8 ≤ e) (k0 : Int32 → mj_M → Option (Int32 × mj_M)) (hk0 : ∀ (x1 : Int32) (M : mj_M), mj_X g (mj_qI g) "WinterTellersModel" c_M_stepsTo 2 (some .boolean) e 0 [(0, .ref 48), (1, .int x1)] [] M (k0 x1 M)) (x1 : Int32) (s1 : Int32) (M : mj_M) : mj_X g (mj_qI g) "WinterTellersModel" c_M_stepsTo 2 (some .boolean) e 57 [(0, .ref 48), (1, .int x1)] [.int s1, .ref 48] M (F_M_stepsTo_b57 N k0 x1 s1 M) := by
  unfold F_M_stepsTo_b57
  refine mj_callVV (pc := 57) (idx := 327) (b := 48) (As := [.int s1]) (st := []) sh_48 cl_12 ev_M_goNow ql_M_327 rfl (Nat.le_of_ble_eq_true rfl) (T_M_goNow (g := g) e (by omega) s1 M) dd_M_stepsTo_57 (fun q4 hq4 => ?_)
  refine mj_aload_n (pc := 60) (i := 0) rfl dd_M_stepsTo_60 ?_
  refine mj_callVV (pc := 61) (idx := 399) (b := 48) (As := []) (st := []) sh_48 cl_12 ev_M_tellBest ql_M_399 rfl (Nat.le_of_ble_eq_true rfl) (T_M_tellBest (g := g) N e (by omega) q4) dd_M_stepsTo_61 (fun q5 hq5 => ?_)
  refine mj_goto (pc := 64) (tgt := 0) dd_M_stepsTo_64 rfl ?_
  refine mj_L (L' := [(0, .ref 48), (1, .int x1)]) [0, 1] rfl ?_
  exact hk0 x1 q5
def F_M_stepsTo_b0 (N : Nat) : Nat → Int32 → mj_M → Option (Int32 × mj_M)
  | 0, _, _ => none
  | n + 1, x1, M =>
    if (M 65 42) = x1 then
     (some ((1 : Int32), M))
     else
     (if (1 : Int32) ≤ (M 65 44) then
     (if x1 ≤ (M 65 42) then
     (F_M_stepsTo_b57 N (F_M_stepsTo_b0 N n) x1 ((M 65 42) - (1 : Int32)) M)
     else
     (F_M_stepsTo_b57 N (F_M_stepsTo_b0 N n) x1 ((M 65 42) + (1 : Int32)) M))
     else
     (some ((0 : Int32), M)))
set_option maxRecDepth 20000 in
theorem T_M_stepsTo_b0 {g : mj_G} (N : Nat) (e : Nat) (he : 8 ≤ e) : ∀ (n : Nat) (x1 : Int32) (M : mj_M), mj_X g (mj_qI g) "WinterTellersModel" c_M_stepsTo 2 (some .boolean) e 0 [(0, .ref 48), (1, .int x1)] [] M (F_M_stepsTo_b0 N n x1 M) := by
  intro n
  induction n with
  | zero => intro x1 M; exact mj_none
  | succ n ih =>
    intro x1 M
    rw [F_M_stepsTo_b0]
    refine mj_aload_n (pc := 0) (i := 0) rfl dd_M_stepsTo_0 ?_
    refine mj_getR (pc := 1) (b := 48) (k := 27) qf_M_58 sh_48 cl_12 rfl (by decide) (r := 65) rfl dd_M_stepsTo_1 ?_
    refine mj_bipush (pc := 4) (v := (42 : Int32)) (by decide) dd_M_stepsTo_4 ?_
    refine mj_ialdK (pc := 6) (j := 42) sh_65 (by decide) rfl dd_M_stepsTo_6 ?_
    refine mj_iload_n (pc := 7) (i := 1) rfl dd_M_stepsTo_7 ?_
    refine mj_icmp_eq (pc := 8) (tgt := 67) dd_M_stepsTo_8 rfl (fun h1 => ?_) (fun h1 => ?_)
    · refine mj_iconst (pc := 67) (v := (1 : Int32)) (by decide) dd_M_stepsTo_67 ?_
      exact mj_zret (by decide) dd_M_stepsTo_68 rfl rfl
    · refine mj_aload_n (pc := 11) (i := 0) rfl dd_M_stepsTo_11 ?_
      refine mj_getR (pc := 12) (b := 48) (k := 27) qf_M_58 sh_48 cl_12 rfl (by decide) (r := 65) rfl dd_M_stepsTo_12 ?_
      refine mj_bipush (pc := 15) (v := (44 : Int32)) (by decide) dd_M_stepsTo_15 ?_
      refine mj_ialdK (pc := 17) (j := 44) sh_65 (by decide) rfl dd_M_stepsTo_17 ?_
      refine mj_iconst (pc := 18) (v := (1 : Int32)) (by decide) dd_M_stepsTo_18 ?_
      refine mj_icmp_ge (pc := 19) (tgt := 24) dd_M_stepsTo_19 rfl (fun h2 => ?_) (fun h2 => ?_)
      · refine mj_aload_n (pc := 24) (i := 0) rfl dd_M_stepsTo_24 ?_
        refine mj_aload_n (pc := 25) (i := 0) rfl dd_M_stepsTo_25 ?_
        refine mj_getR (pc := 26) (b := 48) (k := 27) qf_M_58 sh_48 cl_12 rfl (by decide) (r := 65) rfl dd_M_stepsTo_26 ?_
        refine mj_bipush (pc := 29) (v := (42 : Int32)) (by decide) dd_M_stepsTo_29 ?_
        refine mj_ialdK (pc := 31) (j := 42) sh_65 (by decide) rfl dd_M_stepsTo_31 ?_
        refine mj_iload_n (pc := 32) (i := 1) rfl dd_M_stepsTo_32 ?_
        refine mj_icmp_ge (pc := 33) (tgt := 48) dd_M_stepsTo_33 rfl (fun h3 => ?_) (fun h3 => ?_)
        · refine mj_aload_n (pc := 48) (i := 0) rfl dd_M_stepsTo_48 ?_
          refine mj_getR (pc := 49) (b := 48) (k := 27) qf_M_58 sh_48 cl_12 rfl (by decide) (r := 65) rfl dd_M_stepsTo_49 ?_
          refine mj_bipush (pc := 52) (v := (42 : Int32)) (by decide) dd_M_stepsTo_52 ?_
          refine mj_ialdK (pc := 54) (j := 42) sh_65 (by decide) rfl dd_M_stepsTo_54 ?_
          refine mj_iconst (pc := 55) (v := (1 : Int32)) (by decide) dd_M_stepsTo_55 ?_
          refine mj_isub (pc := 56) dd_M_stepsTo_56 ?_
          refine mj_L (L' := [(0, .ref 48), (1, .int x1)]) [0, 1] rfl ?_
          exact T_M_stepsTo_b57 (g := g) N e he (F_M_stepsTo_b0 N n) ih x1 ((M 65 42) - (1 : Int32)) M
        · refine mj_aload_n (pc := 36) (i := 0) rfl dd_M_stepsTo_36 ?_
          refine mj_getR (pc := 37) (b := 48) (k := 27) qf_M_58 sh_48 cl_12 rfl (by decide) (r := 65) rfl dd_M_stepsTo_37 ?_
          refine mj_bipush (pc := 40) (v := (42 : Int32)) (by decide) dd_M_stepsTo_40 ?_
          refine mj_ialdK (pc := 42) (j := 42) sh_65 (by decide) rfl dd_M_stepsTo_42 ?_
          refine mj_iconst (pc := 43) (v := (1 : Int32)) (by decide) dd_M_stepsTo_43 ?_
          refine mj_iadd (pc := 44) dd_M_stepsTo_44 ?_
          refine mj_goto (pc := 45) (tgt := 57) dd_M_stepsTo_45 rfl ?_
          refine mj_L (L' := [(0, .ref 48), (1, .int x1)]) [0, 1] rfl ?_
          exact T_M_stepsTo_b57 (g := g) N e he (F_M_stepsTo_b0 N n) ih x1 ((M 65 42) + (1 : Int32)) M
      · refine mj_iconst (pc := 22) (v := (0 : Int32)) (by decide) dd_M_stepsTo_22 ?_
        exact mj_zret (by decide) dd_M_stepsTo_23 rfl rfl
def F_M_stepsTo (N : Nat) (x1 : Int32) (M : mj_M) : Option (Int32 × mj_M) :=
    F_M_stepsTo_b0 N N x1 M
set_option maxRecDepth 20000 in
theorem T_M_stepsTo {g : mj_G} (N : Nat) : ∀ d, 9 ≤ d → ∀ (x1 : Int32) (M : mj_M), mj_Mt g (mj_qI g) d y_M_stepsTo c_M_stepsTo 2 (some .boolean) [.ref 48, .int x1] M (F_M_stepsTo N x1 M) := by
  intro d hd x1 M
  obtain ⟨e, rfl⟩ : ∃ e, d = e + 1 := ⟨d - 1, by omega⟩
  have he : 8 ≤ e := by omega
  refine mj_met (by decide +kernel) (Nat.le_of_ble_eq_true rfl) ?_
  unfold F_M_stepsTo
  refine mj_L (L' := [(0, .ref 48), (1, .int x1)]) [0, 1] rfl ?_
  refine mj_L (L' := [(0, .ref 48), (1, .int x1)]) [0, 1] rfl ?_
  exact T_M_stepsTo_b0 (g := g) N e he N x1 M
def F_M_round_b56 (N : Nat) (x1 : Int32) (M : mj_M) : Option (Int32 × mj_M) :=
    mj_lt (M 65 44) (fun v11 =>
     (F_M_takeBack N (0 : Int32) M).bind (fun q12 =>
     if x1 = (0) then
     (some (q12 48 41, q12))
     else
     (if x1 = (1 : Int32) then
     (some (q12 48 42, q12))
     else
     (some (v11, q12)))))
set_option maxRecDepth 20000 in
theorem T_M_round_b56 {g : mj_G} (N : Nat) (e : Nat) (he : 9 ≤ e) (x1 : Int32) (M : mj_M) : mj_X g (mj_qI g) "WinterTellersModel" c_M_round 3 (some .int) e 56 [(0, .ref 48), (1, .int x1)] [] M (F_M_round_b56 N x1 M) := by
  unfold F_M_round_b56
  refine mj_aload_n (pc := 56) (i := 0) rfl dd_M_round_56 ?_
  refine mj_getR (pc := 57) (b := 48) (k := 27) qf_M_58 sh_48 cl_12 rfl (by decide) (r := 65) rfl dd_M_round_57 ?_
  refine mj_bipush (pc := 60) (v := (44 : Int32)) (by decide) dd_M_round_60 ?_
  refine mj_ialdK (pc := 62) (j := 44) sh_65 (by decide) rfl dd_M_round_62 ?_
  refine mj_istore_nL (pc := 63) (by decide) dd_M_round_63 (fun v11 _ => ?_)
  refine mj_L (L' := [(2, .int v11), (0, .ref 48), (1, .int x1)]) [0, 1, 2] rfl ?_
  refine mj_aload_n (pc := 64) (i := 0) rfl dd_M_round_64 ?_
  refine mj_iconst (pc := 65) (v := (0 : Int32)) (by decide) dd_M_round_65 ?_
  refine mj_callVV (pc := 66) (idx := 364) (b := 48) (As := [.int (0 : Int32)]) (st := []) sh_48 cl_12 ev_M_takeBack ql_M_364 rfl (Nat.le_of_ble_eq_true rfl) (T_M_takeBack (g := g) N e (by omega) (0 : Int32) M) dd_M_round_66 (fun q12 hq12 => ?_)
  refine mj_iload_n (pc := 69) (i := 1) rfl dd_M_round_69 ?_
  refine mj_if_ne (pc := 70) (tgt := 80) dd_M_round_70 rfl (fun h13 => ?_) (fun h13 => ?_)
  · refine mj_aload_n (pc := 73) (i := 0) rfl dd_M_round_73 ?_
    refine mj_getI (pc := 74) (b := 48) (k := 41) qf_M_396 sh_48 cl_12 rfl (by decide) rfl dd_M_round_74 ?_
    refine mj_goto (pc := 77) (tgt := 93) dd_M_round_77 rfl ?_
    exact mj_iret dd_M_round_93 rfl rfl
  · refine mj_iload_n (pc := 80) (i := 1) rfl dd_M_round_80 ?_
    refine mj_iconst (pc := 81) (v := (1 : Int32)) (by decide) dd_M_round_81 ?_
    refine mj_icmp_ne (pc := 82) (tgt := 92) dd_M_round_82 rfl (fun h14 => ?_) (fun h14 => ?_)
    · refine mj_aload_n (pc := 85) (i := 0) rfl dd_M_round_85 ?_
      refine mj_getI (pc := 86) (b := 48) (k := 42) qf_M_393 sh_48 cl_12 rfl (by decide) rfl dd_M_round_86 ?_
      refine mj_goto (pc := 89) (tgt := 93) dd_M_round_89 rfl ?_
      exact mj_iret dd_M_round_93 rfl rfl
    · refine mj_iload_n (pc := 92) (i := 2) rfl dd_M_round_92 ?_
      exact mj_iret dd_M_round_93 rfl rfl
def F_M_round (N : Nat) (x1 : Int32) (M : mj_M) : Option (Int32 × mj_M) :=
    if (M 48 25) = (0) then
     (some ((-1 : Int32), M))
     else
     ((F_M_in x1 (0 : Int32) (2 : Int32) M).bind (fun q2 =>
     if q2.1 = (0) then
     (some ((-1 : Int32), q2.2))
     else
     ((F_M_putAside N (0 : Int32) q2.2).bind (fun q4 =>
     mj_lt (mj_u q4 48 41 (0 : Int32)) (fun M5 =>
     mj_lt (mj_u M5 48 42 (0 : Int32)) (fun M6 =>
     (F_M_tellBest N M6).bind (fun q7 =>
     (F_M_stepsTo N ((q7 48 25) - (1 : Int32)) q7).bind (fun q8 =>
     if q8.1 = (0) then
     (F_M_round_b56 N x1 q8.2)
     else
     ((F_M_stepsTo N (0 : Int32) q8.2).bind (fun q10 =>
     F_M_round_b56 N x1 q10.2))))))))))
set_option maxRecDepth 20000 in
theorem T_M_round {g : mj_G} (N : Nat) : ∀ d, 10 ≤ d → ∀ (x1 : Int32) (M : mj_M), mj_Mt g (mj_qI g) d y_M_round c_M_round 3 (some .int) [.ref 48, .int x1] M (F_M_round N x1 M) := by
  intro d hd x1 M
  obtain ⟨e, rfl⟩ : ∃ e, d = e + 1 := ⟨d - 1, by omega⟩
  have he : 9 ≤ e := by omega
  refine mj_met (by decide +kernel) (Nat.le_of_ble_eq_true rfl) ?_
  unfold F_M_round
  refine mj_L (L' := [(0, .ref 48), (1, .int x1)]) [0, 1] rfl ?_
  refine mj_aload_n (pc := 0) (i := 0) rfl dd_M_round_0 ?_
  refine mj_getI (pc := 1) (b := 48) (k := 25) qf_M_242 sh_48 cl_12 rfl (by decide) rfl dd_M_round_1 ?_
  refine mj_if_eq (pc := 4) (tgt := 16) dd_M_round_4 rfl (fun h1 => ?_) (fun h1 => ?_)
  · refine mj_iconst (pc := 16) (v := (-1 : Int32)) (by decide) dd_M_round_16 ?_
    exact mj_iret dd_M_round_17 rfl rfl
  · refine mj_iload_n (pc := 7) (i := 1) rfl dd_M_round_7 ?_
    refine mj_iconst (pc := 8) (v := (0 : Int32)) (by decide) dd_M_round_8 ?_
    refine mj_iconst (pc := 9) (v := (2 : Int32)) (by decide) dd_M_round_9 ?_
    refine mj_callSI (pc := 10) (idx := 205) (As := [.int x1, .int (0 : Int32), .int (2 : Int32)]) (st := []) es_M_in ql_M_205 rfl (Nat.le_of_ble_eq_true rfl) (T_M_in (g := g) e (by omega) x1 (0 : Int32) (2 : Int32) M) dd_M_round_10 (fun q2 hq2 => ?_)
    refine mj_if_ne (pc := 13) (tgt := 18) dd_M_round_13 rfl (fun h3 => ?_) (fun h3 => ?_)
    · refine mj_iconst (pc := 16) (v := (-1 : Int32)) (by decide) dd_M_round_16 ?_
      exact mj_iret dd_M_round_17 rfl rfl
    · refine mj_aload_n (pc := 18) (i := 0) rfl dd_M_round_18 ?_
      refine mj_iconst (pc := 19) (v := (0 : Int32)) (by decide) dd_M_round_19 ?_
      refine mj_callVV (pc := 20) (idx := 358) (b := 48) (As := [.int (0 : Int32)]) (st := []) sh_48 cl_12 ev_M_putAside ql_M_358 rfl (Nat.le_of_ble_eq_true rfl) (T_M_putAside (g := g) N e (by omega) (0 : Int32) q2.2) dd_M_round_20 (fun q4 hq4 => ?_)
      refine mj_aload_n (pc := 23) (i := 0) rfl dd_M_round_23 ?_
      refine mj_iconst (pc := 24) (v := (0 : Int32)) (by decide) dd_M_round_24 ?_
      refine mj_putI (pc := 25) (b := 48) (k := 41) qf_M_396 sh_48 cl_12 rfl (by decide) (by decide) rfl rfl rfl dd_M_round_25 (fun M5 _ => ?_)
      refine mj_aload_n (pc := 28) (i := 0) rfl dd_M_round_28 ?_
      refine mj_iconst (pc := 29) (v := (0 : Int32)) (by decide) dd_M_round_29 ?_
      refine mj_putI (pc := 30) (b := 48) (k := 42) qf_M_393 sh_48 cl_12 rfl (by decide) (by decide) rfl rfl rfl dd_M_round_30 (fun M6 _ => ?_)
      refine mj_aload_n (pc := 33) (i := 0) rfl dd_M_round_33 ?_
      refine mj_callVV (pc := 34) (idx := 399) (b := 48) (As := []) (st := []) sh_48 cl_12 ev_M_tellBest ql_M_399 rfl (Nat.le_of_ble_eq_true rfl) (T_M_tellBest (g := g) N e (by omega) M6) dd_M_round_34 (fun q7 hq7 => ?_)
      refine mj_aload_n (pc := 37) (i := 0) rfl dd_M_round_37 ?_
      refine mj_aload_n (pc := 38) (i := 0) rfl dd_M_round_38 ?_
      refine mj_getI (pc := 39) (b := 48) (k := 25) qf_M_242 sh_48 cl_12 rfl (by decide) rfl dd_M_round_39 ?_
      refine mj_iconst (pc := 42) (v := (1 : Int32)) (by decide) dd_M_round_42 ?_
      refine mj_isub (pc := 43) dd_M_round_43 ?_
      refine mj_callVI (pc := 44) (idx := 402) (b := 48) (As := [.int ((q7 48 25) - (1 : Int32))]) (st := []) sh_48 cl_12 ev_M_stepsTo ql_M_402 rfl (Nat.le_of_ble_eq_true rfl) (T_M_stepsTo (g := g) N e (by omega) ((q7 48 25) - (1 : Int32)) q7) dd_M_round_44 (fun q8 hq8 => ?_)
      refine mj_if_eq (pc := 47) (tgt := 56) dd_M_round_47 rfl (fun h9 => ?_) (fun h9 => ?_)
      · refine mj_L (L' := [(0, .ref 48), (1, .int x1)]) [0, 1] rfl ?_
        exact T_M_round_b56 (g := g) N e he x1 q8.2
      · refine mj_aload_n (pc := 50) (i := 0) rfl dd_M_round_50 ?_
        refine mj_iconst (pc := 51) (v := (0 : Int32)) (by decide) dd_M_round_51 ?_
        refine mj_callVI (pc := 52) (idx := 402) (b := 48) (As := [.int (0 : Int32)]) (st := []) sh_48 cl_12 ev_M_stepsTo ql_M_402 rfl (Nat.le_of_ble_eq_true rfl) (T_M_stepsTo (g := g) N e (by omega) (0 : Int32) q8.2) dd_M_round_52 (fun q10 hq10 => ?_)
        refine mj_pop (pc := 55) rfl dd_M_round_55 ?_
        refine mj_L (L' := [(0, .ref 48), (1, .int x1)]) [0, 1] rfl ?_
        exact T_M_round_b56 (g := g) N e he x1 q10.2
def F_W_highest_c17_b4 (N : Nat) : Nat → Int32 → Int32 → Int32 → mj_M → Option (Int32 × mj_M)
  | 0, _, _, _, _ => none
  | n + 1, x1, x2, x3, M =>
    if x1 ≤ x3 then
     (some (x2, M))
     else
     (if (6 : Int32) ≤ x3 then
     (some (x2, M))
     else
     (mj_ck x3 6 (
     mj_ck x2 6 (
     if (M 17 x3.toNatClampNeg) ≤ (M 17 x2.toNatClampNeg) then
     (F_W_highest_c17_b4 N n x1 x2 (x3 + (1 : Int32)) M)
     else
     (F_W_highest_c17_b4 N n x1 x3 (x3 + (1 : Int32)) M)))))
set_option maxRecDepth 20000 in
theorem T_W_highest_c17_b4 {g : mj_G} (N : Nat) (e : Nat) (he : 0 ≤ e) : ∀ (n : Nat) (x1 : Int32) (x2 : Int32) (x3 : Int32) (M : mj_M), mj_X g (mj_qI g) "WinterTellers" c_W_highest 4 (some .int) e 4 [(0, .ref 17), (1, .int x1), (2, .int x2), (3, .int x3)] [] M (F_W_highest_c17_b4 N n x1 x2 x3 M) := by
  intro n
  induction n with
  | zero => intro x1 x2 x3 M; exact mj_none
  | succ n ih =>
    intro x1 x2 x3 M
    rw [F_W_highest_c17_b4]
    refine mj_iload_n (pc := 4) (i := 3) rfl dd_W_highest_4 ?_
    refine mj_iload_n (pc := 5) (i := 1) rfl dd_W_highest_5 ?_
    refine mj_icmp_ge (pc := 6) (tgt := 32) dd_W_highest_6 rfl (fun h1 => ?_) (fun h1 => ?_)
    · refine mj_iload_n (pc := 32) (i := 2) rfl dd_W_highest_32 ?_
      exact mj_iret dd_W_highest_33 rfl rfl
    · refine mj_iload_n (pc := 9) (i := 3) rfl dd_W_highest_9 ?_
      refine mj_aload_n (pc := 10) (i := 0) rfl dd_W_highest_10 ?_
      refine mj_alen (pc := 11) (v := (6 : Int32)) sh_17 (by decide) dd_W_highest_11 ?_
      refine mj_icmp_ge (pc := 12) (tgt := 32) dd_W_highest_12 rfl (fun h2 => ?_) (fun h2 => ?_)
      · refine mj_iload_n (pc := 32) (i := 2) rfl dd_W_highest_32 ?_
        exact mj_iret dd_W_highest_33 rfl rfl
      · refine mj_aload_n (pc := 15) (i := 0) rfl dd_W_highest_15 ?_
        refine mj_iload_n (pc := 16) (i := 3) rfl dd_W_highest_16 ?_
        refine mj_iald (pc := 17) sh_17 dd_W_highest_17 ?_
        refine mj_aload_n (pc := 18) (i := 0) rfl dd_W_highest_18 ?_
        refine mj_iload_n (pc := 19) (i := 2) rfl dd_W_highest_19 ?_
        refine mj_iald (pc := 20) sh_17 dd_W_highest_20 ?_
        refine mj_icmp_le (pc := 21) (tgt := 26) dd_W_highest_21 rfl (fun h3 => ?_) (fun h3 => ?_)
        · refine mj_iinc (pc := 26) (i := 3) (z := (1 : Int32)) rfl (by decide) (by decide) dd_W_highest_26 ?_
          refine mj_L (L' := [(3, .int (x3 + (1 : Int32))), (0, .ref 17), (1, .int x1), (2, .int x2)]) [0, 1, 2, 3] rfl ?_
          refine mj_goto (pc := 29) (tgt := 4) dd_W_highest_29 rfl ?_
          refine mj_L (L' := [(0, .ref 17), (1, .int x1), (2, .int x2), (3, .int (x3 + (1 : Int32)))]) [1, 2, 3, 0] rfl ?_
          exact ih x1 x2 (x3 + (1 : Int32)) M
        · refine mj_iload_n (pc := 24) (i := 3) rfl dd_W_highest_24 ?_
          refine mj_istore_n (pc := 25) (by decide) dd_W_highest_25 ?_
          refine mj_L (L' := [(2, .int x3), (0, .ref 17), (1, .int x1), (3, .int x3)]) [0, 1, 2, 3] rfl ?_
          refine mj_iinc (pc := 26) (i := 3) (z := (1 : Int32)) rfl (by decide) (by decide) dd_W_highest_26 ?_
          refine mj_L (L' := [(3, .int (x3 + (1 : Int32))), (2, .int x3), (0, .ref 17), (1, .int x1)]) [0, 1, 2, 3] rfl ?_
          refine mj_goto (pc := 29) (tgt := 4) dd_W_highest_29 rfl ?_
          refine mj_L (L' := [(0, .ref 17), (1, .int x1), (2, .int x3), (3, .int (x3 + (1 : Int32)))]) [2, 3, 1, 0] rfl ?_
          exact ih x1 x3 (x3 + (1 : Int32)) M
def F_W_highest_c17 (N : Nat) (x1 : Int32) (M : mj_M) : Option (Int32 × mj_M) :=
    F_W_highest_c17_b4 N N x1 (0 : Int32) (1 : Int32) M
set_option maxRecDepth 20000 in
theorem T_W_highest_c17 {g : mj_G} (N : Nat) : ∀ d, 1 ≤ d → ∀ (x1 : Int32) (M : mj_M), mj_Mt g (mj_qI g) d y_W_highest c_W_highest 4 (some .int) [.ref 17, .int x1] M (F_W_highest_c17 N x1 M) := by
  intro d hd x1 M
  obtain ⟨e, rfl⟩ : ∃ e, d = e + 1 := ⟨d - 1, by omega⟩
  have he : 0 ≤ e := by omega
  refine mj_met (by decide +kernel) (Nat.le_of_ble_eq_true rfl) ?_
  unfold F_W_highest_c17
  refine mj_L (L' := [(0, .ref 17), (1, .int x1)]) [0, 1] rfl ?_
  refine mj_iconst (pc := 0) (v := (0 : Int32)) (by decide) dd_W_highest_0 ?_
  refine mj_istore_n (pc := 1) (by decide) dd_W_highest_1 ?_
  refine mj_L (L' := [(2, .int (0 : Int32)), (0, .ref 17), (1, .int x1)]) [0, 1, 2] rfl ?_
  refine mj_iconst (pc := 2) (v := (1 : Int32)) (by decide) dd_W_highest_2 ?_
  refine mj_istore_n (pc := 3) (by decide) dd_W_highest_3 ?_
  refine mj_L (L' := [(3, .int (1 : Int32)), (2, .int (0 : Int32)), (0, .ref 17), (1, .int x1)]) [0, 1, 2, 3] rfl ?_
  refine mj_L (L' := [(0, .ref 17), (1, .int x1), (2, .int (0 : Int32)), (3, .int (1 : Int32))]) [2, 3, 1, 0] rfl ?_
  exact T_W_highest_c17_b4 (g := g) N e he N x1 (0 : Int32) (1 : Int32) M
