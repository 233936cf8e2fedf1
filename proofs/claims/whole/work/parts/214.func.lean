/-! ===== functions and their proofs ===== -/
def F_M_bestIn_b4 (N : Nat) : Nat → Int32 → Int32 → Int32 → mj_M → Option (Int32 × mj_M)
  | 0, _, _, _, _ => none
  | n + 1, x1, x2, x3, M =>
    if (M 48 26) ≤ x3 then
     (some (x2, M))
     else
     ((F_M_owns x3 M).bind (fun q2 =>
     if q2.1 = (0) then
     (F_M_bestIn_b4 N n x1 x2 (x3 + (1 : Int32)) q2.2)
     else
     (if x2 = (-1 : Int32) then
     (F_M_bestIn_b4 N n x1 x3 (x3 + (1 : Int32)) q2.2)
     else
     ((F_M_nightsNow N x1 x3 q2.2).bind (fun q5 =>
     (F_M_nightsNow N x1 x2 q5.2).bind (fun q6 =>
     if q5.1 ≤ q6.1 then
     (F_M_bestIn_b4 N n x1 x2 (x3 + (1 : Int32)) q6.2)
     else
     (F_M_bestIn_b4 N n x1 x3 (x3 + (1 : Int32)) q6.2)))))))
set_option maxRecDepth 20000 in
theorem T_M_bestIn_b4 {g : mj_G} (N : Nat) (e : Nat) (he : 6 ≤ e) : ∀ (n : Nat) (x1 : Int32) (x2 : Int32) (x3 : Int32) (M : mj_M), mj_X g (mj_qI g) "WinterTellersModel" c_M_bestIn 4 (some .int) e 4 [(0, .ref 48), (1, .int x1), (2, .int x2), (3, .int x3)] [] M (F_M_bestIn_b4 N n x1 x2 x3 M) := by
  intro n
  induction n with
  | zero => intro x1 x2 x3 M; exact mj_none
  | succ n ih =>
    intro x1 x2 x3 M
    rw [F_M_bestIn_b4]
    refine mj_iload_n (pc := 4) (i := 3) rfl dd_M_bestIn_4 ?_
    refine mj_aload_n (pc := 5) (i := 0) rfl dd_M_bestIn_5 ?_
    refine mj_getI (pc := 6) (b := 48) (k := 26) qf_M_245 sh_48 cl_12 rfl (by decide) rfl dd_M_bestIn_6 ?_
    refine mj_icmp_ge (pc := 9) (tgt := 52) dd_M_bestIn_9 rfl (fun h1 => ?_) (fun h1 => ?_)
    · refine mj_iload_n (pc := 52) (i := 2) rfl dd_M_bestIn_52 ?_
      exact mj_iret dd_M_bestIn_53 rfl rfl
    · refine mj_aload_n (pc := 12) (i := 0) rfl dd_M_bestIn_12 ?_
      refine mj_iload_n (pc := 13) (i := 3) rfl dd_M_bestIn_13 ?_
      refine mj_callVI (pc := 14) (idx := 309) (b := 48) (As := [.int x3]) (st := []) sh_48 cl_12 ev_M_owns ql_M_309 rfl (Nat.le_of_ble_eq_true rfl) (T_M_owns (g := g) e (by omega) x3 M) dd_M_bestIn_14 (fun q2 hq2 => ?_)
      refine mj_if_eq (pc := 17) (tgt := 44) dd_M_bestIn_17 rfl (fun h3 => ?_) (fun h3 => ?_)
      · refine mj_iload_n (pc := 44) (i := 2) rfl dd_M_bestIn_44 ?_
        refine mj_istore_n (pc := 45) (by decide) dd_M_bestIn_45 ?_
        refine mj_L (L' := [(2, .int x2), (0, .ref 48), (1, .int x1), (3, .int x3)]) [0, 1, 2, 3] rfl ?_
        refine mj_iinc (pc := 46) (i := 3) (z := (1 : Int32)) rfl (by decide) (by decide) dd_M_bestIn_46 ?_
        refine mj_L (L' := [(3, .int (x3 + (1 : Int32))), (2, .int x2), (0, .ref 48), (1, .int x1)]) [0, 1, 2, 3] rfl ?_
        refine mj_goto (pc := 49) (tgt := 4) dd_M_bestIn_49 rfl ?_
        refine mj_L (L' := [(0, .ref 48), (1, .int x1), (2, .int x2), (3, .int (x3 + (1 : Int32)))]) [2, 3, 1, 0] rfl ?_
        exact ih x1 x2 (x3 + (1 : Int32)) q2.2
      · refine mj_iload_n (pc := 20) (i := 2) rfl dd_M_bestIn_20 ?_
        refine mj_iconst (pc := 21) (v := (-1 : Int32)) (by decide) dd_M_bestIn_21 ?_
        refine mj_icmp_eq (pc := 22) (tgt := 40) dd_M_bestIn_22 rfl (fun h4 => ?_) (fun h4 => ?_)
        · refine mj_iload_n (pc := 40) (i := 3) rfl dd_M_bestIn_40 ?_
          refine mj_goto (pc := 41) (tgt := 45) dd_M_bestIn_41 rfl ?_
          refine mj_istore_n (pc := 45) (by decide) dd_M_bestIn_45 ?_
          refine mj_L (L' := [(2, .int x3), (0, .ref 48), (1, .int x1), (3, .int x3)]) [0, 1, 2, 3] rfl ?_
          refine mj_iinc (pc := 46) (i := 3) (z := (1 : Int32)) rfl (by decide) (by decide) dd_M_bestIn_46 ?_
          refine mj_L (L' := [(3, .int (x3 + (1 : Int32))), (2, .int x3), (0, .ref 48), (1, .int x1)]) [0, 1, 2, 3] rfl ?_
          refine mj_goto (pc := 49) (tgt := 4) dd_M_bestIn_49 rfl ?_
          refine mj_L (L' := [(0, .ref 48), (1, .int x1), (2, .int x3), (3, .int (x3 + (1 : Int32)))]) [2, 3, 1, 0] rfl ?_
          exact ih x1 x3 (x3 + (1 : Int32)) q2.2
        · refine mj_aload_n (pc := 25) (i := 0) rfl dd_M_bestIn_25 ?_
          refine mj_iload_n (pc := 26) (i := 1) rfl dd_M_bestIn_26 ?_
          refine mj_iload_n (pc := 27) (i := 3) rfl dd_M_bestIn_27 ?_
          refine mj_callVI (pc := 28) (idx := 284) (b := 48) (As := [.int x1, .int x3]) (st := []) sh_48 cl_12 ev_M_nightsNow ql_M_284 rfl (Nat.le_of_ble_eq_true rfl) (T_M_nightsNow (g := g) N e (by omega) x1 x3 q2.2) dd_M_bestIn_28 (fun q5 hq5 => ?_)
          refine mj_aload_n (pc := 31) (i := 0) rfl dd_M_bestIn_31 ?_
          refine mj_iload_n (pc := 32) (i := 1) rfl dd_M_bestIn_32 ?_
          refine mj_iload_n (pc := 33) (i := 2) rfl dd_M_bestIn_33 ?_
          refine mj_callVI (pc := 34) (idx := 284) (b := 48) (As := [.int x1, .int x2]) (st := [.int q5.1]) sh_48 cl_12 ev_M_nightsNow ql_M_284 rfl (Nat.le_of_ble_eq_true rfl) (T_M_nightsNow (g := g) N e (by omega) x1 x2 q5.2) dd_M_bestIn_34 (fun q6 hq6 => ?_)
          refine mj_icmp_le (pc := 37) (tgt := 44) dd_M_bestIn_37 rfl (fun h7 => ?_) (fun h7 => ?_)
          · refine mj_iload_n (pc := 44) (i := 2) rfl dd_M_bestIn_44 ?_
            refine mj_istore_n (pc := 45) (by decide) dd_M_bestIn_45 ?_
            refine mj_L (L' := [(2, .int x2), (0, .ref 48), (1, .int x1), (3, .int x3)]) [0, 1, 2, 3] rfl ?_
            refine mj_iinc (pc := 46) (i := 3) (z := (1 : Int32)) rfl (by decide) (by decide) dd_M_bestIn_46 ?_
            refine mj_L (L' := [(3, .int (x3 + (1 : Int32))), (2, .int x2), (0, .ref 48), (1, .int x1)]) [0, 1, 2, 3] rfl ?_
            refine mj_goto (pc := 49) (tgt := 4) dd_M_bestIn_49 rfl ?_
            refine mj_L (L' := [(0, .ref 48), (1, .int x1), (2, .int x2), (3, .int (x3 + (1 : Int32)))]) [2, 3, 1, 0] rfl ?_
            exact ih x1 x2 (x3 + (1 : Int32)) q6.2
          · refine mj_iload_n (pc := 40) (i := 3) rfl dd_M_bestIn_40 ?_
            refine mj_goto (pc := 41) (tgt := 45) dd_M_bestIn_41 rfl ?_
            refine mj_istore_n (pc := 45) (by decide) dd_M_bestIn_45 ?_
            refine mj_L (L' := [(2, .int x3), (0, .ref 48), (1, .int x1), (3, .int x3)]) [0, 1, 2, 3] rfl ?_
            refine mj_iinc (pc := 46) (i := 3) (z := (1 : Int32)) rfl (by decide) (by decide) dd_M_bestIn_46 ?_
            refine mj_L (L' := [(3, .int (x3 + (1 : Int32))), (2, .int x3), (0, .ref 48), (1, .int x1)]) [0, 1, 2, 3] rfl ?_
            refine mj_goto (pc := 49) (tgt := 4) dd_M_bestIn_49 rfl ?_
            refine mj_L (L' := [(0, .ref 48), (1, .int x1), (2, .int x3), (3, .int (x3 + (1 : Int32)))]) [2, 3, 1, 0] rfl ?_
            exact ih x1 x3 (x3 + (1 : Int32)) q6.2
def F_M_bestIn (N : Nat) (x1 : Int32) (M : mj_M) : Option (Int32 × mj_M) :=
    F_M_bestIn_b4 N N x1 (-1 : Int32) (0 : Int32) M
set_option maxRecDepth 20000 in
theorem T_M_bestIn {g : mj_G} (N : Nat) : ∀ d, 7 ≤ d → ∀ (x1 : Int32) (M : mj_M), mj_Mt g (mj_qI g) d y_M_bestIn c_M_bestIn 4 (some .int) [.ref 48, .int x1] M (F_M_bestIn N x1 M) := by
  intro d hd x1 M
  obtain ⟨e, rfl⟩ : ∃ e, d = e + 1 := ⟨d - 1, by omega⟩
  have he : 6 ≤ e := by omega
  refine mj_met (by decide +kernel) (Nat.le_of_ble_eq_true rfl) ?_
  unfold F_M_bestIn
  refine mj_L (L' := [(0, .ref 48), (1, .int x1)]) [0, 1] rfl ?_
  refine mj_iconst (pc := 0) (v := (-1 : Int32)) (by decide) dd_M_bestIn_0 ?_
  refine mj_istore_n (pc := 1) (by decide) dd_M_bestIn_1 ?_
  refine mj_L (L' := [(2, .int (-1 : Int32)), (0, .ref 48), (1, .int x1)]) [0, 1, 2] rfl ?_
  refine mj_iconst (pc := 2) (v := (0 : Int32)) (by decide) dd_M_bestIn_2 ?_
  refine mj_istore_n (pc := 3) (by decide) dd_M_bestIn_3 ?_
  refine mj_L (L' := [(3, .int (0 : Int32)), (2, .int (-1 : Int32)), (0, .ref 48), (1, .int x1)]) [0, 1, 2, 3] rfl ?_
  refine mj_L (L' := [(0, .ref 48), (1, .int x1), (2, .int (-1 : Int32)), (3, .int (0 : Int32))]) [2, 3, 1, 0] rfl ?_
  exact T_M_bestIn_b4 (g := g) N e he N x1 (-1 : Int32) (0 : Int32) M
def F_M_best (N : Nat) (x1 : Int32) (x2 : Int32) (M : mj_M) : Option (Int32 × mj_M) :=
    (F_M_isHouse x1 M).bind (fun q1 =>
     if q1.1 = (0) then
     (some ((-1 : Int32), q1.2))
     else
     ((F_M_in x2 (0 : Int32) (1 : Int32) q1.2).bind (fun q3 =>
     if q3.1 = (0) then
     (some ((-1 : Int32), q3.2))
     else
     ((F_M_bestIn N x1 q3.2).bind (fun q5 =>
     if q5.1 = (-1 : Int32) then
     (some (q5.1, q5.2))
     else
     (if x2 = (0) then
     (some (q5.1, q5.2))
     else
     ((F_M_nightsNow N x1 q5.1 q5.2).bind (fun q8 =>
     some (q8.1, q8.2)))))))))
set_option maxRecDepth 20000 in
theorem T_M_best {g : mj_G} (N : Nat) : ∀ d, 8 ≤ d → ∀ (x1 : Int32) (x2 : Int32) (M : mj_M), mj_Mt g (mj_qI g) d y_M_best c_M_best 4 (some .int) [.ref 48, .int x1, .int x2] M (F_M_best N x1 x2 M) := by
  intro d hd x1 x2 M
  obtain ⟨e, rfl⟩ : ∃ e, d = e + 1 := ⟨d - 1, by omega⟩
  have he : 7 ≤ e := by omega
  refine mj_met (by decide +kernel) (Nat.le_of_ble_eq_true rfl) ?_
  unfold F_M_best
  refine mj_L (L' := [(0, .ref 48), (1, .int x1), (2, .int x2)]) [0, 1, 2] rfl ?_
  refine mj_aload_n (pc := 0) (i := 0) rfl dd_M_best_0 ?_
  refine mj_iload_n (pc := 1) (i := 1) rfl dd_M_best_1 ?_
  refine mj_callVI (pc := 2) (idx := 300) (b := 48) (As := [.int x1]) (st := []) sh_48 cl_12 ev_M_isHouse ql_M_300 rfl (Nat.le_of_ble_eq_true rfl) (T_M_isHouse (g := g) e (by omega) x1 M) dd_M_best_2 (fun q1 hq1 => ?_)
  refine mj_if_eq (pc := 5) (tgt := 17) dd_M_best_5 rfl (fun h2 => ?_) (fun h2 => ?_)
  · refine mj_iconst (pc := 17) (v := (-1 : Int32)) (by decide) dd_M_best_17 ?_
    exact mj_iret dd_M_best_18 rfl rfl
  · refine mj_iload_n (pc := 8) (i := 2) rfl dd_M_best_8 ?_
    refine mj_iconst (pc := 9) (v := (0 : Int32)) (by decide) dd_M_best_9 ?_
    refine mj_iconst (pc := 10) (v := (1 : Int32)) (by decide) dd_M_best_10 ?_
    refine mj_callSI (pc := 11) (idx := 205) (As := [.int x2, .int (0 : Int32), .int (1 : Int32)]) (st := []) es_M_in ql_M_205 rfl (Nat.le_of_ble_eq_true rfl) (T_M_in (g := g) e (by omega) x2 (0 : Int32) (1 : Int32) q1.2) dd_M_best_11 (fun q3 hq3 => ?_)
    refine mj_if_ne (pc := 14) (tgt := 19) dd_M_best_14 rfl (fun h4 => ?_) (fun h4 => ?_)
    · refine mj_iconst (pc := 17) (v := (-1 : Int32)) (by decide) dd_M_best_17 ?_
      exact mj_iret dd_M_best_18 rfl rfl
    · refine mj_aload_n (pc := 19) (i := 0) rfl dd_M_best_19 ?_
      refine mj_iload_n (pc := 20) (i := 1) rfl dd_M_best_20 ?_
      refine mj_callVI (pc := 21) (idx := 349) (b := 48) (As := [.int x1]) (st := []) sh_48 cl_12 ev_M_bestIn ql_M_349 rfl (Nat.le_of_ble_eq_true rfl) (T_M_bestIn (g := g) N e (by omega) x1 q3.2) dd_M_best_21 (fun q5 hq5 => ?_)
      refine mj_istore_n (pc := 24) (by decide) dd_M_best_24 ?_
      refine mj_L (L' := [(3, .int q5.1), (0, .ref 48), (1, .int x1), (2, .int x2)]) [0, 1, 2, 3] rfl ?_
      refine mj_iload_n (pc := 25) (i := 3) rfl dd_M_best_25 ?_
      refine mj_iconst (pc := 26) (v := (-1 : Int32)) (by decide) dd_M_best_26 ?_
      refine mj_icmp_eq (pc := 27) (tgt := 34) dd_M_best_27 rfl (fun h6 => ?_) (fun h6 => ?_)
      · refine mj_iload_n (pc := 34) (i := 3) rfl dd_M_best_34 ?_
        refine mj_goto (pc := 35) (tgt := 44) dd_M_best_35 rfl ?_
        exact mj_iret dd_M_best_44 rfl rfl
      · refine mj_iload_n (pc := 30) (i := 2) rfl dd_M_best_30 ?_
        refine mj_if_ne (pc := 31) (tgt := 38) dd_M_best_31 rfl (fun h7 => ?_) (fun h7 => ?_)
        · refine mj_iload_n (pc := 34) (i := 3) rfl dd_M_best_34 ?_
          refine mj_goto (pc := 35) (tgt := 44) dd_M_best_35 rfl ?_
          exact mj_iret dd_M_best_44 rfl rfl
        · refine mj_aload_n (pc := 38) (i := 0) rfl dd_M_best_38 ?_
          refine mj_iload_n (pc := 39) (i := 1) rfl dd_M_best_39 ?_
          refine mj_iload_n (pc := 40) (i := 3) rfl dd_M_best_40 ?_
          refine mj_callVI (pc := 41) (idx := 284) (b := 48) (As := [.int x1, .int q5.1]) (st := []) sh_48 cl_12 ev_M_nightsNow ql_M_284 rfl (Nat.le_of_ble_eq_true rfl) (T_M_nightsNow (g := g) N e (by omega) x1 q5.1 q5.2) dd_M_best_41 (fun q8 hq8 => ?_)
          exact mj_iret dd_M_best_44 rfl rfl
def F_Plans_weighAll_b15 (N : Nat) (k2 : Int32 → mj_M → Option (mj_M)) : Nat → Int32 → Int32 → mj_M → Option (mj_M)
  | 0, _, _, _ => none
  | n + 1, x1, x2, M =>
    if (M 13 1) ≤ x2 then
     (k2 (x1 + (1 : Int32)) M)
     else
     ((F_Stays_now N x1 x2 M).bind (fun q3 =>
     mj_ck ((x1 * (6 : Int32)) + x2) 36 (mj_lt (mj_u q3.2 34 ((x1 * (6 : Int32)) + x2).toNatClampNeg q3.1) (fun M4 =>
     F_Plans_weighAll_b15 N k2 n x1 (x2 + (1 : Int32)) M4))))
set_option maxRecDepth 20000 in
theorem T_Plans_weighAll_b15 {g : mj_G} (N : Nat) (e : Nat) (he : 5 ≤ e) (k2 : Int32 → mj_M → Option (mj_M)) (hk2 : ∀ (x1 : Int32) (M : mj_M), mj_X g (mj_qV g) "WinterTellers$Plans" c_Plans_weighAll 3 none e 2 [(0, .ref 33), (1, .int x1)] [] M (k2 x1 M)) : ∀ (n : Nat) (x1 : Int32) (x2 : Int32) (M : mj_M), mj_X g (mj_qV g) "WinterTellers$Plans" c_Plans_weighAll 3 none e 15 [(0, .ref 33), (1, .int x1), (2, .int x2)] [] M (F_Plans_weighAll_b15 N k2 n x1 x2 M) := by
  intro n
  induction n with
  | zero => intro x1 x2 M; exact mj_none
  | succ n ih =>
    intro x1 x2 M
    rw [F_Plans_weighAll_b15]
    refine mj_iload_n (pc := 15) (i := 2) rfl dd_Plans_weighAll_15 ?_
    refine mj_aload_n (pc := 16) (i := 0) rfl dd_Plans_weighAll_16 ?_
    refine mj_getR (pc := 17) (b := 33) (k := 7) qf_Plans_24 sh_33 cl_7 rfl (by decide) (r := 13) rfl dd_Plans_weighAll_17 ?_
    refine mj_getI (pc := 20) (b := 13) (k := 1) qf_Plans_43 sh_13 cl_0 rfl (by decide) rfl dd_Plans_weighAll_20 ?_
    refine mj_icmp_ge (pc := 23) (tgt := 52) dd_Plans_weighAll_23 rfl (fun h2 => ?_) (fun h2 => ?_)
    · refine mj_iinc (pc := 52) (i := 1) (z := (1 : Int32)) rfl (by decide) (by decide) dd_Plans_weighAll_52 ?_
      refine mj_L (L' := [(1, .int (x1 + (1 : Int32))), (0, .ref 33)]) [0, 1] rfl ?_
      refine mj_goto (pc := 55) (tgt := 2) dd_Plans_weighAll_55 rfl ?_
      refine mj_L (L' := [(0, .ref 33), (1, .int (x1 + (1 : Int32)))]) [1, 0] rfl ?_
      exact hk2 (x1 + (1 : Int32)) M
    · refine mj_aload_n (pc := 26) (i := 0) rfl dd_Plans_weighAll_26 ?_
      refine mj_getR (pc := 27) (b := 33) (k := 10) qf_Plans_9 sh_33 cl_7 rfl (by decide) (r := 34) rfl dd_Plans_weighAll_27 ?_
      refine mj_iload_n (pc := 30) (i := 1) rfl dd_Plans_weighAll_30 ?_
      refine mj_bipush (pc := 31) (v := (6 : Int32)) (by decide) dd_Plans_weighAll_31 ?_
      refine mj_imul (pc := 33) dd_Plans_weighAll_33 ?_
      refine mj_iload_n (pc := 34) (i := 2) rfl dd_Plans_weighAll_34 ?_
      refine mj_iadd (pc := 35) dd_Plans_weighAll_35 ?_
      refine mj_aload_n (pc := 36) (i := 0) rfl dd_Plans_weighAll_36 ?_
      refine mj_getR (pc := 37) (b := 33) (k := 9) qf_Plans_32 sh_33 cl_7 rfl (by decide) (r := 28) rfl dd_Plans_weighAll_37 ?_
      refine mj_iload_n (pc := 40) (i := 1) rfl dd_Plans_weighAll_40 ?_
      refine mj_iload_n (pc := 41) (i := 2) rfl dd_Plans_weighAll_41 ?_
      refine mj_callVI (pc := 42) (idx := 66) (b := 28) (As := [.int x1, .int x2]) (st := [.int ((x1 * (6 : Int32)) + x2), .ref 34]) sh_28 cl_9 ev_Stays_now ql_Plans_66 rfl (Nat.le_of_ble_eq_true rfl) (T_Stays_now (g := g) N e (by omega) x1 x2 M) dd_Plans_weighAll_42 (fun q3 hq3 => ?_)
      refine mj_iast (pc := 45) sh_34 dd_Plans_weighAll_45 (fun M4 _ => ?_)
      refine mj_iinc (pc := 46) (i := 2) (z := (1 : Int32)) rfl (by decide) (by decide) dd_Plans_weighAll_46 ?_
      refine mj_L (L' := [(2, .int (x2 + (1 : Int32))), (0, .ref 33), (1, .int x1)]) [0, 1, 2] rfl ?_
      refine mj_goto (pc := 49) (tgt := 15) dd_Plans_weighAll_49 rfl ?_
      refine mj_L (L' := [(0, .ref 33), (1, .int x1), (2, .int (x2 + (1 : Int32)))]) [1, 2, 0] rfl ?_
      exact ih x1 (x2 + (1 : Int32)) M4
def F_Plans_weighAll_b2 (N : Nat) : Nat → Int32 → mj_M → Option (mj_M)
  | 0, _, _ => none
  | n + 1, x1, M =>
    if (M 13 0) ≤ x1 then
     (some M)
     else
     (F_Plans_weighAll_b15 N (F_Plans_weighAll_b2 N n) N x1 (0 : Int32) M)
set_option maxRecDepth 20000 in
theorem T_Plans_weighAll_b2 {g : mj_G} (N : Nat) (e : Nat) (he : 5 ≤ e) : ∀ (n : Nat) (x1 : Int32) (M : mj_M), mj_X g (mj_qV g) "WinterTellers$Plans" c_Plans_weighAll 3 none e 2 [(0, .ref 33), (1, .int x1)] [] M (F_Plans_weighAll_b2 N n x1 M) := by
  intro n
  induction n with
  | zero => intro x1 M; exact mj_none
  | succ n ih =>
    intro x1 M
    rw [F_Plans_weighAll_b2]
    refine mj_iload_n (pc := 2) (i := 1) rfl dd_Plans_weighAll_2 ?_
    refine mj_aload_n (pc := 3) (i := 0) rfl dd_Plans_weighAll_3 ?_
    refine mj_getR (pc := 4) (b := 33) (k := 7) qf_Plans_24 sh_33 cl_7 rfl (by decide) (r := 13) rfl dd_Plans_weighAll_4 ?_
    refine mj_getI (pc := 7) (b := 13) (k := 0) qf_Plans_63 sh_13 cl_0 rfl (by decide) rfl dd_Plans_weighAll_7 ?_
    refine mj_icmp_ge (pc := 10) (tgt := 58) dd_Plans_weighAll_10 rfl (fun h1 => ?_) (fun h1 => ?_)
    · exact mj_vret dd_Plans_weighAll_58 rfl rfl
    · refine mj_iconst (pc := 13) (v := (0 : Int32)) (by decide) dd_Plans_weighAll_13 ?_
      refine mj_istore_n (pc := 14) (by decide) dd_Plans_weighAll_14 ?_
      refine mj_L (L' := [(2, .int (0 : Int32)), (0, .ref 33), (1, .int x1)]) [0, 1, 2] rfl ?_
      refine mj_L (L' := [(0, .ref 33), (1, .int x1), (2, .int (0 : Int32))]) [1, 2, 0] rfl ?_
      exact T_Plans_weighAll_b15 (g := g) N e he (F_Plans_weighAll_b2 N n) ih N x1 (0 : Int32) M
def F_Plans_weighAll (N : Nat) (M : mj_M) : Option (mj_M) :=
    F_Plans_weighAll_b2 N N (0 : Int32) M
set_option maxRecDepth 20000 in
theorem T_Plans_weighAll {g : mj_G} (N : Nat) : ∀ d, 6 ≤ d → ∀ (M : mj_M), mj_Mt g (mj_qV g) d y_Plans_weighAll c_Plans_weighAll 3 none [.ref 33] M (F_Plans_weighAll N M) := by
  intro d hd M
  obtain ⟨e, rfl⟩ : ∃ e, d = e + 1 := ⟨d - 1, by omega⟩
  have he : 5 ≤ e := by omega
  refine mj_met (by decide +kernel) (Nat.le_of_ble_eq_true rfl) ?_
  unfold F_Plans_weighAll
  refine mj_L (L' := [(0, .ref 33)]) [0] rfl ?_
  refine mj_iconst (pc := 0) (v := (0 : Int32)) (by decide) dd_Plans_weighAll_0 ?_
  refine mj_istore_n (pc := 1) (by decide) dd_Plans_weighAll_1 ?_
  refine mj_L (L' := [(1, .int (0 : Int32)), (0, .ref 33)]) [0, 1] rfl ?_
  refine mj_L (L' := [(0, .ref 33), (1, .int (0 : Int32))]) [1, 0] rfl ?_
  exact T_Plans_weighAll_b2 (g := g) N e he N (0 : Int32) M
def F_Stays_onceMore (N : Nat) (x1 : Int32) (x2 : Int32) (M : mj_M) : Option (Int32 × mj_M) :=
    mj_ck ((x1 * (6 : Int32)) + x2) 36 (
     (F_Stand_heardOnceMore (M 22 ((x1 * (6 : Int32)) + x2).toNatClampNeg) M).bind (fun q1 =>
     mj_ck x2 6 (
     (F_Stays_by N x1 x2 q1.1 (q1.2 21 x2.toNatClampNeg) q1.2).bind (fun q2 =>
     some (q2.1, q2.2)))))
set_option maxRecDepth 20000 in
theorem T_Stays_onceMore {g : mj_G} (N : Nat) : ∀ d, 5 ≤ d → ∀ (x1 : Int32) (x2 : Int32) (M : mj_M), mj_Mt g (mj_qI g) d y_Stays_onceMore c_Stays_onceMore 4 (some .int) [.ref 28, .int x1, .int x2] M (F_Stays_onceMore N x1 x2 M) := by
  intro d hd x1 x2 M
  obtain ⟨e, rfl⟩ : ∃ e, d = e + 1 := ⟨d - 1, by omega⟩
  have he : 4 ≤ e := by omega
  refine mj_met (by decide +kernel) (Nat.le_of_ble_eq_true rfl) ?_
  unfold F_Stays_onceMore
  refine mj_L (L' := [(0, .ref 28), (1, .int x1), (2, .int x2)]) [0, 1, 2] rfl ?_
  refine mj_aload_n (pc := 0) (i := 0) rfl dd_Stays_onceMore_0 ?_
  refine mj_getR (pc := 1) (b := 28) (k := 1) qf_Stays_15 sh_28 cl_9 rfl (by decide) (r := 20) rfl dd_Stays_onceMore_1 ?_
  refine mj_getR (pc := 4) (b := 20) (k := 8) qf_Stays_23 sh_20 cl_8 rfl (by decide) (r := 22) rfl dd_Stays_onceMore_4 ?_
  refine mj_iload_n (pc := 7) (i := 1) rfl dd_Stays_onceMore_7 ?_
  refine mj_bipush (pc := 8) (v := (6 : Int32)) (by decide) dd_Stays_onceMore_8 ?_
  refine mj_imul (pc := 10) dd_Stays_onceMore_10 ?_
  refine mj_iload_n (pc := 11) (i := 2) rfl dd_Stays_onceMore_11 ?_
  refine mj_iadd (pc := 12) dd_Stays_onceMore_12 ?_
  refine mj_iald (pc := 13) sh_22 dd_Stays_onceMore_13 ?_
  refine mj_callSI (pc := 14) (idx := 36) (As := [.int (M 22 ((x1 * (6 : Int32)) + x2).toNatClampNeg)]) (st := []) es_Stand_heardOnceMore ql_Stays_36 rfl (Nat.le_of_ble_eq_true rfl) (T_Stand_heardOnceMore (g := g) e (by omega) (M 22 ((x1 * (6 : Int32)) + x2).toNatClampNeg) M) dd_Stays_onceMore_14 (fun q1 hq1 => ?_)
  refine mj_istore_n (pc := 17) (by decide) dd_Stays_onceMore_17 ?_
  refine mj_L (L' := [(3, .int q1.1), (0, .ref 28), (1, .int x1), (2, .int x2)]) [0, 1, 2, 3] rfl ?_
  refine mj_aload_n (pc := 18) (i := 0) rfl dd_Stays_onceMore_18 ?_
  refine mj_iload_n (pc := 19) (i := 1) rfl dd_Stays_onceMore_19 ?_
  refine mj_iload_n (pc := 20) (i := 2) rfl dd_Stays_onceMore_20 ?_
  refine mj_iload_n (pc := 21) (i := 3) rfl dd_Stays_onceMore_21 ?_
  refine mj_aload_n (pc := 22) (i := 0) rfl dd_Stays_onceMore_22 ?_
  refine mj_getR (pc := 23) (b := 28) (k := 1) qf_Stays_15 sh_28 cl_9 rfl (by decide) (r := 20) rfl dd_Stays_onceMore_23 ?_
  refine mj_getR (pc := 26) (b := 20) (k := 7) qf_Stays_29 sh_20 cl_8 rfl (by decide) (r := 21) rfl dd_Stays_onceMore_26 ?_
  refine mj_iload_n (pc := 29) (i := 2) rfl dd_Stays_onceMore_29 ?_
  refine mj_iald (pc := 30) sh_21 dd_Stays_onceMore_30 ?_
  refine mj_callVI (pc := 31) (idx := 32) (b := 28) (As := [.int x1, .int x2, .int q1.1, .int (q1.2 21 x2.toNatClampNeg)]) (st := []) sh_28 cl_9 ev_Stays_by ql_Stays_32 rfl (Nat.le_of_ble_eq_true rfl) (T_Stays_by (g := g) N e (by omega) x1 x2 q1.1 (q1.2 21 x2.toNatClampNeg) q1.2) dd_Stays_onceMore_31 (fun q2 hq2 => ?_)
  exact mj_iret dd_Stays_onceMore_34 rfl rfl
def F_Plans_digitsOf (x0 : Int32) (M : mj_M) : Option (Int32 × mj_M) :=
    some (((x0 / (6 : Int32)) * (10 : Int32)) + (x0 - x0 / (6 : Int32) * (6 : Int32)), M)
set_option maxRecDepth 20000 in
theorem T_Plans_digitsOf {g : mj_G} : ∀ d, 1 ≤ d → ∀ (x0 : Int32) (M : mj_M), mj_Mt g (mj_qI g) d y_Plans_digitsOf c_Plans_digitsOf 1 (some .int) [.int x0] M (F_Plans_digitsOf x0 M) := by
  intro d hd x0 M
  obtain ⟨e, rfl⟩ : ∃ e, d = e + 1 := ⟨d - 1, by omega⟩
  have he : 0 ≤ e := by omega
  refine mj_met (by decide +kernel) (Nat.le_of_ble_eq_true rfl) ?_
  unfold F_Plans_digitsOf
  refine mj_L (L' := [(0, .int x0)]) [0] rfl ?_
  refine mj_iload_n (pc := 0) (i := 0) rfl dd_Plans_digitsOf_0 ?_
  refine mj_bipush (pc := 1) (v := (6 : Int32)) (by decide) dd_Plans_digitsOf_1 ?_
  refine mj_idivK (pc := 3) (by decide) dd_Plans_digitsOf_3 ?_
  refine mj_bipush (pc := 4) (v := (10 : Int32)) (by decide) dd_Plans_digitsOf_4 ?_
  refine mj_imul (pc := 6) dd_Plans_digitsOf_6 ?_
  refine mj_iload_n (pc := 7) (i := 0) rfl dd_Plans_digitsOf_7 ?_
  refine mj_bipush (pc := 8) (v := (6 : Int32)) (by decide) dd_Plans_digitsOf_8 ?_
  refine mj_iremK (pc := 10) (by decide) dd_Plans_digitsOf_10 ?_
  refine mj_iadd (pc := 11) dd_Plans_digitsOf_11 ?_
  exact mj_iret dd_Plans_digitsOf_12 rfl rfl
def F_Plans_trySecondsIn_b61 (N : Nat) (k2 : Int32 → Int32 → Int32 → mj_M → Option (mj_M)) (x1 : Int32) (x2 : Int32) (x3 : Int32) (x4 : Int32) (s0 : Int32) (s1 : Int32) (M : mj_M) : Option (mj_M) :=
    mj_lt (s0 + s1) (fun v6 =>
     if v6 ≤ (M 33 3) then
     (k2 x1 x2 (x3 + (1 : Int32)) M)
     else
     (mj_lt (mj_u M 33 3 v6) (fun M8 =>
     (F_Plans_digitsOf x2 M8).bind (fun q9 =>
     (F_Plans_digitsOf x4 q9.2).bind (fun q10 =>
     mj_lt (mj_u q10.2 33 2 ((q9.1 * (100 : Int32)) + q10.1)) (fun M11 =>
     k2 x1 x2 (x3 + (1 : Int32)) M11))))))
set_option maxRecDepth 20000 in
theorem T_Plans_trySecondsIn_b61 {g : mj_G} (N : Nat) (e : Nat) (he : 1 ≤ e) (k2 : Int32 → Int32 → Int32 → mj_M → Option (mj_M)) (hk2 : ∀ (x1 : Int32) (x2 : Int32) (x3 : Int32) (M : mj_M), mj_X g (mj_qV g) "WinterTellers$Plans" c_Plans_trySecondsIn 6 none e 2 [(0, .ref 33), (1, .int x1), (2, .int x2), (3, .int x3)] [] M (k2 x1 x2 x3 M)) (x1 : Int32) (x2 : Int32) (x3 : Int32) (x4 : Int32) (s0 : Int32) (s1 : Int32) (M : mj_M) : mj_X g (mj_qV g) "WinterTellers$Plans" c_Plans_trySecondsIn 6 none e 61 [(0, .ref 33), (1, .int x1), (2, .int x2), (3, .int x3), (4, .int x4)] [.int s1, .int s0] M (F_Plans_trySecondsIn_b61 N k2 x1 x2 x3 x4 s0 s1 M) := by
  unfold F_Plans_trySecondsIn_b61
  refine mj_iadd (pc := 61) dd_Plans_trySecondsIn_61 ?_
  refine mj_istoreL (pc := 62) (by decide) dd_Plans_trySecondsIn_62 (fun v6 _ => ?_)
  refine mj_L (L' := [(5, .int v6), (0, .ref 33), (1, .int x1), (2, .int x2), (3, .int x3), (4, .int x4)]) [0, 1, 2, 3, 4, 5] rfl ?_
  refine mj_iload (pc := 64) (i := 5) rfl dd_Plans_trySecondsIn_64 ?_
  refine mj_aload_n (pc := 66) (i := 0) rfl dd_Plans_trySecondsIn_66 ?_
  refine mj_getI (pc := 67) (b := 33) (k := 3) qf_Plans_72 sh_33 cl_7 rfl (by decide) rfl dd_Plans_trySecondsIn_67 ?_
  refine mj_icmp_le (pc := 70) (tgt := 96) dd_Plans_trySecondsIn_70 rfl (fun h7 => ?_) (fun h7 => ?_)
  · refine mj_iinc (pc := 96) (i := 3) (z := (1 : Int32)) rfl (by decide) (by decide) dd_Plans_trySecondsIn_96 ?_
    refine mj_L (L' := [(3, .int (x3 + (1 : Int32))), (0, .ref 33), (1, .int x1), (2, .int x2)]) [0, 2, 3, 4] rfl ?_
    refine mj_goto (pc := 99) (tgt := 2) dd_Plans_trySecondsIn_99 rfl ?_
    refine mj_L (L' := [(0, .ref 33), (1, .int x1), (2, .int x2), (3, .int (x3 + (1 : Int32)))]) [1, 2, 3, 0] rfl ?_
    exact hk2 x1 x2 (x3 + (1 : Int32)) M
  · refine mj_aload_n (pc := 73) (i := 0) rfl dd_Plans_trySecondsIn_73 ?_
    refine mj_iload (pc := 74) (i := 5) rfl dd_Plans_trySecondsIn_74 ?_
    refine mj_putI (pc := 76) (b := 33) (k := 3) qf_Plans_72 sh_33 cl_7 rfl (by decide) (by decide) rfl rfl rfl dd_Plans_trySecondsIn_76 (fun M8 _ => ?_)
    refine mj_aload_n (pc := 79) (i := 0) rfl dd_Plans_trySecondsIn_79 ?_
    refine mj_iload_n (pc := 80) (i := 2) rfl dd_Plans_trySecondsIn_80 ?_
    refine mj_callSI (pc := 81) (idx := 102) (As := [.int x2]) (st := [.ref 33]) es_Plans_digitsOf ql_Plans_102 rfl (Nat.le_of_ble_eq_true rfl) (T_Plans_digitsOf (g := g) e (by omega) x2 M8) dd_Plans_trySecondsIn_81 (fun q9 hq9 => ?_)
    refine mj_bipush (pc := 84) (v := (100 : Int32)) (by decide) dd_Plans_trySecondsIn_84 ?_
    refine mj_imul (pc := 86) dd_Plans_trySecondsIn_86 ?_
    refine mj_iload (pc := 87) (i := 4) rfl dd_Plans_trySecondsIn_87 ?_
    refine mj_callSI (pc := 89) (idx := 102) (As := [.int x4]) (st := [.int (q9.1 * (100 : Int32)), .ref 33]) es_Plans_digitsOf ql_Plans_102 rfl (Nat.le_of_ble_eq_true rfl) (T_Plans_digitsOf (g := g) e (by omega) x4 q9.2) dd_Plans_trySecondsIn_89 (fun q10 hq10 => ?_)
    refine mj_iadd (pc := 92) dd_Plans_trySecondsIn_92 ?_
    refine mj_putI (pc := 93) (b := 33) (k := 2) qf_Plans_69 sh_33 cl_7 rfl (by decide) (by decide) rfl rfl rfl dd_Plans_trySecondsIn_93 (fun M11 _ => ?_)
    refine mj_iinc (pc := 96) (i := 3) (z := (1 : Int32)) rfl (by decide) (by decide) dd_Plans_trySecondsIn_96 ?_
    refine mj_L (L' := [(3, .int (x3 + (1 : Int32))), (0, .ref 33), (1, .int x1), (2, .int x2)]) [0, 2, 3, 4] rfl ?_
    refine mj_goto (pc := 99) (tgt := 2) dd_Plans_trySecondsIn_99 rfl ?_
    refine mj_L (L' := [(0, .ref 33), (1, .int x1), (2, .int x2), (3, .int (x3 + (1 : Int32)))]) [1, 2, 3, 0] rfl ?_
    exact hk2 x1 x2 (x3 + (1 : Int32)) M11
def F_Plans_trySecondsIn_b2 (N : Nat) : Nat → Int32 → Int32 → Int32 → mj_M → Option (mj_M)
  | 0, _, _, _, _ => none
  | n + 1, x1, x2, x3, M =>
    if (M 13 1) ≤ x3 then
     (some M)
     else
     ((F_Stand_owns x3 M).bind (fun q2 =>
     if q2.1 = (0) then
     (F_Plans_trySecondsIn_b2 N n x1 x2 (x3 + (1 : Int32)) q2.2)
     else
     (mj_lt ((x1 * (6 : Int32)) + x3) (fun v4 =>
     mj_ck x2 36 (
     if v4 = x2 then
     (mj_ck v4 36 (
     F_Plans_trySecondsIn_b61 N (F_Plans_trySecondsIn_b2 N n) x1 x2 x3 v4 (q2.2 34 x2.toNatClampNeg) (q2.2 35 v4.toNatClampNeg) q2.2))
     else
     (mj_ck v4 36 (
     F_Plans_trySecondsIn_b61 N (F_Plans_trySecondsIn_b2 N n) x1 x2 x3 v4 (q2.2 34 x2.toNatClampNeg) (q2.2 34 v4.toNatClampNeg) q2.2)))))))
set_option maxRecDepth 20000 in
theorem T_Plans_trySecondsIn_b2 {g : mj_G} (N : Nat) (e : Nat) (he : 1 ≤ e) : ∀ (n : Nat) (x1 : Int32) (x2 : Int32) (x3 : Int32) (M : mj_M), mj_X g (mj_qV g) "WinterTellers$Plans" c_Plans_trySecondsIn 6 none e 2 [(0, .ref 33), (1, .int x1), (2, .int x2), (3, .int x3)] [] M (F_Plans_trySecondsIn_b2 N n x1 x2 x3 M) := by
  intro n
  induction n with
  | zero => intro x1 x2 x3 M; exact mj_none
  | succ n ih =>
    intro x1 x2 x3 M
    rw [F_Plans_trySecondsIn_b2]
    refine mj_iload_n (pc := 2) (i := 3) rfl dd_Plans_trySecondsIn_2 ?_
    refine mj_aload_n (pc := 3) (i := 0) rfl dd_Plans_trySecondsIn_3 ?_
    refine mj_getR (pc := 4) (b := 33) (k := 7) qf_Plans_24 sh_33 cl_7 rfl (by decide) (r := 13) rfl dd_Plans_trySecondsIn_4 ?_
    refine mj_getI (pc := 7) (b := 13) (k := 1) qf_Plans_43 sh_13 cl_0 rfl (by decide) rfl dd_Plans_trySecondsIn_7 ?_
    refine mj_icmp_ge (pc := 10) (tgt := 102) dd_Plans_trySecondsIn_10 rfl (fun h1 => ?_) (fun h1 => ?_)
    · exact mj_vret dd_Plans_trySecondsIn_102 rfl rfl
    · refine mj_aload_n (pc := 13) (i := 0) rfl dd_Plans_trySecondsIn_13 ?_
      refine mj_getR (pc := 14) (b := 33) (k := 8) qf_Plans_28 sh_33 cl_7 rfl (by decide) (r := 20) rfl dd_Plans_trySecondsIn_14 ?_
      refine mj_iload_n (pc := 17) (i := 3) rfl dd_Plans_trySecondsIn_17 ?_
      refine mj_callVI (pc := 18) (idx := 48) (b := 20) (As := [.int x3]) (st := []) sh_20 cl_8 ev_Stand_owns ql_Plans_48 rfl (Nat.le_of_ble_eq_true rfl) (T_Stand_owns (g := g) e (by omega) x3 M) dd_Plans_trySecondsIn_18 (fun q2 hq2 => ?_)
      refine mj_if_eq (pc := 21) (tgt := 96) dd_Plans_trySecondsIn_21 rfl (fun h3 => ?_) (fun h3 => ?_)
      · refine mj_iinc (pc := 96) (i := 3) (z := (1 : Int32)) rfl (by decide) (by decide) dd_Plans_trySecondsIn_96 ?_
        refine mj_L (L' := [(3, .int (x3 + (1 : Int32))), (0, .ref 33), (1, .int x1), (2, .int x2)]) [0, 1, 2, 3] rfl ?_
        refine mj_goto (pc := 99) (tgt := 2) dd_Plans_trySecondsIn_99 rfl ?_
        refine mj_L (L' := [(0, .ref 33), (1, .int x1), (2, .int x2), (3, .int (x3 + (1 : Int32)))]) [1, 2, 3, 0] rfl ?_
        exact ih x1 x2 (x3 + (1 : Int32)) q2.2
      · refine mj_iload_n (pc := 24) (i := 1) rfl dd_Plans_trySecondsIn_24 ?_
        refine mj_bipush (pc := 25) (v := (6 : Int32)) (by decide) dd_Plans_trySecondsIn_25 ?_
        refine mj_imul (pc := 27) dd_Plans_trySecondsIn_27 ?_
        refine mj_iload_n (pc := 28) (i := 3) rfl dd_Plans_trySecondsIn_28 ?_
        refine mj_iadd (pc := 29) dd_Plans_trySecondsIn_29 ?_
        refine mj_istoreL (pc := 30) (by decide) dd_Plans_trySecondsIn_30 (fun v4 _ => ?_)
        refine mj_L (L' := [(4, .int v4), (0, .ref 33), (1, .int x1), (2, .int x2), (3, .int x3)]) [0, 1, 2, 3, 4] rfl ?_
        refine mj_aload_n (pc := 32) (i := 0) rfl dd_Plans_trySecondsIn_32 ?_
        refine mj_getR (pc := 33) (b := 33) (k := 10) qf_Plans_9 sh_33 cl_7 rfl (by decide) (r := 34) rfl dd_Plans_trySecondsIn_33 ?_
        refine mj_iload_n (pc := 36) (i := 2) rfl dd_Plans_trySecondsIn_36 ?_
        refine mj_iald (pc := 37) sh_34 dd_Plans_trySecondsIn_37 ?_
        refine mj_iload (pc := 38) (i := 4) rfl dd_Plans_trySecondsIn_38 ?_
        refine mj_iload_n (pc := 40) (i := 2) rfl dd_Plans_trySecondsIn_40 ?_
        refine mj_icmp_ne (pc := 41) (tgt := 54) dd_Plans_trySecondsIn_41 rfl (fun h5 => ?_) (fun h5 => ?_)
        · refine mj_aload_n (pc := 44) (i := 0) rfl dd_Plans_trySecondsIn_44 ?_
          refine mj_getR (pc := 45) (b := 33) (k := 11) qf_Plans_15 sh_33 cl_7 rfl (by decide) (r := 35) rfl dd_Plans_trySecondsIn_45 ?_
          refine mj_iload (pc := 48) (i := 4) rfl dd_Plans_trySecondsIn_48 ?_
          refine mj_iald (pc := 50) sh_35 dd_Plans_trySecondsIn_50 ?_
          refine mj_goto (pc := 51) (tgt := 61) dd_Plans_trySecondsIn_51 rfl ?_
          refine mj_L (L' := [(0, .ref 33), (1, .int x1), (2, .int x2), (3, .int x3), (4, .int v4)]) [1, 2, 3, 4, 0] rfl ?_
          exact T_Plans_trySecondsIn_b61 (g := g) N e he (F_Plans_trySecondsIn_b2 N n) ih x1 x2 x3 v4 (q2.2 34 x2.toNatClampNeg) (q2.2 35 v4.toNatClampNeg) q2.2
        · refine mj_aload_n (pc := 54) (i := 0) rfl dd_Plans_trySecondsIn_54 ?_
          refine mj_getR (pc := 55) (b := 33) (k := 10) qf_Plans_9 sh_33 cl_7 rfl (by decide) (r := 34) rfl dd_Plans_trySecondsIn_55 ?_
          refine mj_iload (pc := 58) (i := 4) rfl dd_Plans_trySecondsIn_58 ?_
          refine mj_iald (pc := 60) sh_34 dd_Plans_trySecondsIn_60 ?_
          refine mj_L (L' := [(0, .ref 33), (1, .int x1), (2, .int x2), (3, .int x3), (4, .int v4)]) [1, 2, 3, 4, 0] rfl ?_
          exact T_Plans_trySecondsIn_b61 (g := g) N e he (F_Plans_trySecondsIn_b2 N n) ih x1 x2 x3 v4 (q2.2 34 x2.toNatClampNeg) (q2.2 34 v4.toNatClampNeg) q2.2
def F_Plans_trySecondsIn (N : Nat) (x1 : Int32) (x2 : Int32) (M : mj_M) : Option (mj_M) :=
    F_Plans_trySecondsIn_b2 N N x1 x2 (0 : Int32) M
set_option maxRecDepth 20000 in
theorem T_Plans_trySecondsIn {g : mj_G} (N : Nat) : ∀ d, 2 ≤ d → ∀ (x1 : Int32) (x2 : Int32) (M : mj_M), mj_Mt g (mj_qV g) d y_Plans_trySecondsIn c_Plans_trySecondsIn 6 none [.ref 33, .int x1, .int x2] M (F_Plans_trySecondsIn N x1 x2 M) := by
  intro d hd x1 x2 M
  obtain ⟨e, rfl⟩ : ∃ e, d = e + 1 := ⟨d - 1, by omega⟩
  have he : 1 ≤ e := by omega
  refine mj_met (by decide +kernel) (Nat.le_of_ble_eq_true rfl) ?_
  unfold F_Plans_trySecondsIn
  refine mj_L (L' := [(0, .ref 33), (1, .int x1), (2, .int x2)]) [0, 1, 2] rfl ?_
  refine mj_iconst (pc := 0) (v := (0 : Int32)) (by decide) dd_Plans_trySecondsIn_0 ?_
  refine mj_istore_n (pc := 1) (by decide) dd_Plans_trySecondsIn_1 ?_
  refine mj_L (L' := [(3, .int (0 : Int32)), (0, .ref 33), (1, .int x1), (2, .int x2)]) [0, 1, 2, 3] rfl ?_
  refine mj_L (L' := [(0, .ref 33), (1, .int x1), (2, .int x2), (3, .int (0 : Int32))]) [1, 2, 3, 0] rfl ?_
  exact T_Plans_trySecondsIn_b2 (g := g) N e he N x1 x2 (0 : Int32) M
def F_Plans_trySecondsBehind_b37 (N : Nat) : Nat → Int32 → Int32 → Int32 → Int32 → mj_M → Option (mj_M)
  | 0, _, _, _, _, _ => none
  | n + 1, x1, x3, x4, x5, M =>
    if (M 13 0) ≤ x5 then
     (some M)
     else
     (if x4 < (mj_abs (x5 - x1)) then
     (F_Plans_trySecondsBehind_b37 N n x1 x3 x4 (x5 + (1 : Int32)) M)
     else
     ((F_Plans_trySecondsIn N x5 x3 M).bind (fun q6 =>
     F_Plans_trySecondsBehind_b37 N n x1 x3 x4 (x5 + (1 : Int32)) q6)))
set_option maxRecDepth 20000 in
theorem T_Plans_trySecondsBehind_b37 {g : mj_G} (N : Nat) (e : Nat) (he : 2 ≤ e) : ∀ (n : Nat) (x1 : Int32) (x3 : Int32) (x4 : Int32) (x5 : Int32) (M : mj_M), mj_X g (mj_qV g) "WinterTellers$Plans" c_Plans_trySecondsBehind 6 none e 37 [(0, .ref 33), (1, .int x1), (3, .int x3), (4, .int x4), (5, .int x5)] [] M (F_Plans_trySecondsBehind_b37 N n x1 x3 x4 x5 M) := by
  intro n
  induction n with
  | zero => intro x1 x3 x4 x5 M; exact mj_none
  | succ n ih =>
    intro x1 x3 x4 x5 M
    rw [F_Plans_trySecondsBehind_b37]
    refine mj_iload (pc := 37) (i := 5) rfl dd_Plans_trySecondsBehind_37 ?_
    refine mj_aload_n (pc := 39) (i := 0) rfl dd_Plans_trySecondsBehind_39 ?_
    refine mj_getR (pc := 40) (b := 33) (k := 7) qf_Plans_24 sh_33 cl_7 rfl (by decide) (r := 13) rfl dd_Plans_trySecondsBehind_40 ?_
    refine mj_getI (pc := 43) (b := 13) (k := 0) qf_Plans_63 sh_13 cl_0 rfl (by decide) rfl dd_Plans_trySecondsBehind_43 ?_
    refine mj_icmp_ge (pc := 46) (tgt := 74) dd_Plans_trySecondsBehind_46 rfl (fun h4 => ?_) (fun h4 => ?_)
    · exact mj_vret dd_Plans_trySecondsBehind_74 rfl rfl
    · refine mj_iload (pc := 49) (i := 5) rfl dd_Plans_trySecondsBehind_49 ?_
      refine mj_iload_n (pc := 51) (i := 1) rfl dd_Plans_trySecondsBehind_51 ?_
      refine mj_isub (pc := 52) dd_Plans_trySecondsBehind_52 ?_
      refine mj_mabs (pc := 53) (idx := 94) qm_Plans_94 (Nat.le_of_ble_eq_true rfl) dd_Plans_trySecondsBehind_53 ?_
      refine mj_iload (pc := 56) (i := 4) rfl dd_Plans_trySecondsBehind_56 ?_
      refine mj_icmp_gt (pc := 58) (tgt := 68) dd_Plans_trySecondsBehind_58 rfl (fun h5 => ?_) (fun h5 => ?_)
      · refine mj_iinc (pc := 68) (i := 5) (z := (1 : Int32)) rfl (by decide) (by decide) dd_Plans_trySecondsBehind_68 ?_
        refine mj_L (L' := [(5, .int (x5 + (1 : Int32))), (0, .ref 33), (1, .int x1), (3, .int x3), (4, .int x4)]) [0, 1, 2, 3, 4] rfl ?_
        refine mj_goto (pc := 71) (tgt := 37) dd_Plans_trySecondsBehind_71 rfl ?_
        refine mj_L (L' := [(0, .ref 33), (1, .int x1), (3, .int x3), (4, .int x4), (5, .int (x5 + (1 : Int32)))]) [1, 2, 3, 4, 0] rfl ?_
        exact ih x1 x3 x4 (x5 + (1 : Int32)) M
      · refine mj_aload_n (pc := 61) (i := 0) rfl dd_Plans_trySecondsBehind_61 ?_
        refine mj_iload (pc := 62) (i := 5) rfl dd_Plans_trySecondsBehind_62 ?_
        refine mj_iload_n (pc := 64) (i := 3) rfl dd_Plans_trySecondsBehind_64 ?_
        refine mj_callVV (pc := 65) (idx := 99) (b := 33) (As := [.int x5, .int x3]) (st := []) sh_33 cl_7 ev_Plans_trySecondsIn ql_Plans_99 rfl (Nat.le_of_ble_eq_true rfl) (T_Plans_trySecondsIn (g := g) N e (by omega) x5 x3 M) dd_Plans_trySecondsBehind_65 (fun q6 hq6 => ?_)
        refine mj_iinc (pc := 68) (i := 5) (z := (1 : Int32)) rfl (by decide) (by decide) dd_Plans_trySecondsBehind_68 ?_
        refine mj_L (L' := [(5, .int (x5 + (1 : Int32))), (0, .ref 33), (1, .int x1), (3, .int x3), (4, .int x4)]) [0, 1, 2, 3, 4] rfl ?_
        refine mj_goto (pc := 71) (tgt := 37) dd_Plans_trySecondsBehind_71 rfl ?_
        refine mj_L (L' := [(0, .ref 33), (1, .int x1), (3, .int x3), (4, .int x4), (5, .int (x5 + (1 : Int32)))]) [1, 2, 3, 4, 0] rfl ?_
        exact ih x1 x3 x4 (x5 + (1 : Int32)) q6
def F_Plans_trySecondsBehind (N : Nat) (x1 : Int32) (x2 : Int32) (M : mj_M) : Option (mj_M) :=
    mj_lt ((x1 * (6 : Int32)) + x2) (fun v1 =>
     (F_Stand_farTo x1 M).bind (fun q2 =>
     mj_ck v1 36 (
     (F_Stand_breadAfter ((M 20 2) - q2.1) (q2.2 34 v1.toNatClampNeg) q2.2).bind (fun q3 =>
     F_Plans_trySecondsBehind_b37 N N x1 v1 q3.1 (0 : Int32) q3.2))))
set_option maxRecDepth 20000 in
theorem T_Plans_trySecondsBehind {g : mj_G} (N : Nat) : ∀ d, 3 ≤ d → ∀ (x1 : Int32) (x2 : Int32) (M : mj_M), mj_Mt g (mj_qV g) d y_Plans_trySecondsBehind c_Plans_trySecondsBehind 6 none [.ref 33, .int x1, .int x2] M (F_Plans_trySecondsBehind N x1 x2 M) := by
  intro d hd x1 x2 M
  obtain ⟨e, rfl⟩ : ∃ e, d = e + 1 := ⟨d - 1, by omega⟩
  have he : 2 ≤ e := by omega
  refine mj_met (by decide +kernel) (Nat.le_of_ble_eq_true rfl) ?_
  unfold F_Plans_trySecondsBehind
  refine mj_L (L' := [(0, .ref 33), (1, .int x1), (2, .int x2)]) [0, 1, 2] rfl ?_
  refine mj_iload_n (pc := 0) (i := 1) rfl dd_Plans_trySecondsBehind_0 ?_
  refine mj_bipush (pc := 1) (v := (6 : Int32)) (by decide) dd_Plans_trySecondsBehind_1 ?_
  refine mj_imul (pc := 3) dd_Plans_trySecondsBehind_3 ?_
  refine mj_iload_n (pc := 4) (i := 2) rfl dd_Plans_trySecondsBehind_4 ?_
  refine mj_iadd (pc := 5) dd_Plans_trySecondsBehind_5 ?_
  refine mj_istore_nL (pc := 6) (by decide) dd_Plans_trySecondsBehind_6 (fun v1 _ => ?_)
  refine mj_L (L' := [(3, .int v1), (0, .ref 33), (1, .int x1)]) [0, 1, 2] rfl ?_
  refine mj_aload_n (pc := 7) (i := 0) rfl dd_Plans_trySecondsBehind_7 ?_
  refine mj_getR (pc := 8) (b := 33) (k := 8) qf_Plans_28 sh_33 cl_7 rfl (by decide) (r := 20) rfl dd_Plans_trySecondsBehind_8 ?_
  refine mj_getI (pc := 11) (b := 20) (k := 2) qf_Plans_82 sh_20 cl_8 rfl (by decide) rfl dd_Plans_trySecondsBehind_11 ?_
  refine mj_aload_n (pc := 14) (i := 0) rfl dd_Plans_trySecondsBehind_14 ?_
  refine mj_getR (pc := 15) (b := 33) (k := 8) qf_Plans_28 sh_33 cl_7 rfl (by decide) (r := 20) rfl dd_Plans_trySecondsBehind_15 ?_
  refine mj_iload_n (pc := 18) (i := 1) rfl dd_Plans_trySecondsBehind_18 ?_
  refine mj_callVI (pc := 19) (idx := 78) (b := 20) (As := [.int x1]) (st := [.int (M 20 2)]) sh_20 cl_8 ev_Stand_farTo ql_Plans_78 rfl (Nat.le_of_ble_eq_true rfl) (T_Stand_farTo (g := g) e (by omega) x1 M) dd_Plans_trySecondsBehind_19 (fun q2 hq2 => ?_)
  refine mj_isub (pc := 22) dd_Plans_trySecondsBehind_22 ?_
  refine mj_aload_n (pc := 23) (i := 0) rfl dd_Plans_trySecondsBehind_23 ?_
  refine mj_getR (pc := 24) (b := 33) (k := 10) qf_Plans_9 sh_33 cl_7 rfl (by decide) (r := 34) rfl dd_Plans_trySecondsBehind_24 ?_
  refine mj_iload_n (pc := 27) (i := 3) rfl dd_Plans_trySecondsBehind_27 ?_
  refine mj_iald (pc := 28) sh_34 dd_Plans_trySecondsBehind_28 ?_
  refine mj_callSI (pc := 29) (idx := 91) (As := [.int ((M 20 2) - q2.1), .int (q2.2 34 v1.toNatClampNeg)]) (st := []) es_Stand_breadAfter ql_Plans_91 rfl (Nat.le_of_ble_eq_true rfl) (T_Stand_breadAfter (g := g) e (by omega) ((M 20 2) - q2.1) (q2.2 34 v1.toNatClampNeg) q2.2) dd_Plans_trySecondsBehind_29 (fun q3 hq3 => ?_)
  refine mj_istore (pc := 32) (by decide) dd_Plans_trySecondsBehind_32 ?_
  refine mj_L (L' := [(4, .int q3.1), (3, .int v1), (0, .ref 33), (1, .int x1)]) [0, 1, 2, 3] rfl ?_
  refine mj_iconst (pc := 34) (v := (0 : Int32)) (by decide) dd_Plans_trySecondsBehind_34 ?_
  refine mj_istore (pc := 35) (by decide) dd_Plans_trySecondsBehind_35 ?_
  refine mj_L (L' := [(5, .int (0 : Int32)), (4, .int q3.1), (3, .int v1), (0, .ref 33), (1, .int x1)]) [0, 1, 2, 3, 4] rfl ?_
  refine mj_L (L' := [(0, .ref 33), (1, .int x1), (3, .int v1), (4, .int q3.1), (5, .int (0 : Int32))]) [3, 4, 2, 1, 0] rfl ?_
  exact T_Plans_trySecondsBehind_b37 (g := g) N e he N x1 v1 q3.1 (0 : Int32) q3.2
def F_Plans_findTwo_b29 (N : Nat) (k16 : Int32 → mj_M → Option (mj_M)) : Nat → Int32 → Int32 → mj_M → Option (mj_M)
  | 0, _, _, _ => none
  | n + 1, x1, x2, M =>
    if (M 13 1) ≤ x2 then
     (k16 (x1 + (1 : Int32)) M)
     else
     ((F_Stand_owns x2 M).bind (fun q6 =>
     if q6.1 = (0) then
     (F_Plans_findTwo_b29 N k16 n x1 (x2 + (1 : Int32)) q6.2)
     else
     ((F_Stand_farTo x1 q6.2).bind (fun q8 =>
     if (q8.2 20 2) < q8.1 then
     (F_Plans_findTwo_b29 N k16 n x1 (x2 + (1 : Int32)) q8.2)
     else
     ((F_Stays_onceMore N x1 x2 q8.2).bind (fun q10 =>
     mj_ck ((x1 * (6 : Int32)) + x2) 36 (mj_lt (mj_u q10.2 35 ((x1 * (6 : Int32)) + x2).toNatClampNeg q10.1) (fun M11 =>
     (F_Plans_trySecondsBehind N x1 x2 M11).bind (fun q12 =>
     F_Plans_findTwo_b29 N k16 n x1 (x2 + (1 : Int32)) q12)))))))))
set_option maxRecDepth 20000 in
theorem T_Plans_findTwo_b29 {g : mj_G} (N : Nat) (e : Nat) (he : 6 ≤ e) (k16 : Int32 → mj_M → Option (mj_M)) (hk16 : ∀ (x1 : Int32) (M : mj_M), mj_X g (mj_qV g) "WinterTellers$Plans" c_Plans_findTwo 3 none e 16 [(0, .ref 33), (1, .int x1)] [] M (k16 x1 M)) : ∀ (n : Nat) (x1 : Int32) (x2 : Int32) (M : mj_M), mj_X g (mj_qV g) "WinterTellers$Plans" c_Plans_findTwo 3 none e 29 [(0, .ref 33), (1, .int x1), (2, .int x2)] [] M (F_Plans_findTwo_b29 N k16 n x1 x2 M) := by
  intro n
  induction n with
  | zero => intro x1 x2 M; exact mj_none
  | succ n ih =>
    intro x1 x2 M
    rw [F_Plans_findTwo_b29]
    refine mj_iload_n (pc := 29) (i := 2) rfl dd_Plans_findTwo_29 ?_
    refine mj_aload_n (pc := 30) (i := 0) rfl dd_Plans_findTwo_30 ?_
    refine mj_getR (pc := 31) (b := 33) (k := 7) qf_Plans_24 sh_33 cl_7 rfl (by decide) (r := 13) rfl dd_Plans_findTwo_31 ?_
    refine mj_getI (pc := 34) (b := 13) (k := 1) qf_Plans_43 sh_13 cl_0 rfl (by decide) rfl dd_Plans_findTwo_34 ?_
    refine mj_icmp_ge (pc := 37) (tgt := 101) dd_Plans_findTwo_37 rfl (fun h5 => ?_) (fun h5 => ?_)
    · refine mj_iinc (pc := 101) (i := 1) (z := (1 : Int32)) rfl (by decide) (by decide) dd_Plans_findTwo_101 ?_
      refine mj_L (L' := [(1, .int (x1 + (1 : Int32))), (0, .ref 33)]) [0, 1] rfl ?_
      refine mj_goto (pc := 104) (tgt := 16) dd_Plans_findTwo_104 rfl ?_
      refine mj_L (L' := [(0, .ref 33), (1, .int (x1 + (1 : Int32)))]) [1, 0] rfl ?_
      exact hk16 (x1 + (1 : Int32)) M
    · refine mj_aload_n (pc := 40) (i := 0) rfl dd_Plans_findTwo_40 ?_
      refine mj_getR (pc := 41) (b := 33) (k := 8) qf_Plans_28 sh_33 cl_7 rfl (by decide) (r := 20) rfl dd_Plans_findTwo_41 ?_
      refine mj_iload_n (pc := 44) (i := 2) rfl dd_Plans_findTwo_44 ?_
      refine mj_callVI (pc := 45) (idx := 48) (b := 20) (As := [.int x2]) (st := []) sh_20 cl_8 ev_Stand_owns ql_Plans_48 rfl (Nat.le_of_ble_eq_true rfl) (T_Stand_owns (g := g) e (by omega) x2 M) dd_Plans_findTwo_45 (fun q6 hq6 => ?_)
      refine mj_if_eq (pc := 48) (tgt := 95) dd_Plans_findTwo_48 rfl (fun h7 => ?_) (fun h7 => ?_)
      · refine mj_iinc (pc := 95) (i := 2) (z := (1 : Int32)) rfl (by decide) (by decide) dd_Plans_findTwo_95 ?_
        refine mj_L (L' := [(2, .int (x2 + (1 : Int32))), (0, .ref 33), (1, .int x1)]) [0, 1, 2] rfl ?_
        refine mj_goto (pc := 98) (tgt := 29) dd_Plans_findTwo_98 rfl ?_
        refine mj_L (L' := [(0, .ref 33), (1, .int x1), (2, .int (x2 + (1 : Int32)))]) [1, 2, 0] rfl ?_
        exact ih x1 (x2 + (1 : Int32)) q6.2
      · refine mj_aload_n (pc := 51) (i := 0) rfl dd_Plans_findTwo_51 ?_
        refine mj_getR (pc := 52) (b := 33) (k := 8) qf_Plans_28 sh_33 cl_7 rfl (by decide) (r := 20) rfl dd_Plans_findTwo_52 ?_
        refine mj_iload_n (pc := 55) (i := 1) rfl dd_Plans_findTwo_55 ?_
        refine mj_callVI (pc := 56) (idx := 78) (b := 20) (As := [.int x1]) (st := []) sh_20 cl_8 ev_Stand_farTo ql_Plans_78 rfl (Nat.le_of_ble_eq_true rfl) (T_Stand_farTo (g := g) e (by omega) x1 q6.2) dd_Plans_findTwo_56 (fun q8 hq8 => ?_)
        refine mj_aload_n (pc := 59) (i := 0) rfl dd_Plans_findTwo_59 ?_
        refine mj_getR (pc := 60) (b := 33) (k := 8) qf_Plans_28 sh_33 cl_7 rfl (by decide) (r := 20) rfl dd_Plans_findTwo_60 ?_
        refine mj_getI (pc := 63) (b := 20) (k := 2) qf_Plans_82 sh_20 cl_8 rfl (by decide) rfl dd_Plans_findTwo_63 ?_
        refine mj_icmp_gt (pc := 66) (tgt := 95) dd_Plans_findTwo_66 rfl (fun h9 => ?_) (fun h9 => ?_)
        · refine mj_iinc (pc := 95) (i := 2) (z := (1 : Int32)) rfl (by decide) (by decide) dd_Plans_findTwo_95 ?_
          refine mj_L (L' := [(2, .int (x2 + (1 : Int32))), (0, .ref 33), (1, .int x1)]) [0, 1, 2] rfl ?_
          refine mj_goto (pc := 98) (tgt := 29) dd_Plans_findTwo_98 rfl ?_
          refine mj_L (L' := [(0, .ref 33), (1, .int x1), (2, .int (x2 + (1 : Int32)))]) [1, 2, 0] rfl ?_
          exact ih x1 (x2 + (1 : Int32)) q8.2
        · refine mj_aload_n (pc := 69) (i := 0) rfl dd_Plans_findTwo_69 ?_
          refine mj_getR (pc := 70) (b := 33) (k := 11) qf_Plans_15 sh_33 cl_7 rfl (by decide) (r := 35) rfl dd_Plans_findTwo_70 ?_
          refine mj_iload_n (pc := 73) (i := 1) rfl dd_Plans_findTwo_73 ?_
          refine mj_bipush (pc := 74) (v := (6 : Int32)) (by decide) dd_Plans_findTwo_74 ?_
          refine mj_imul (pc := 76) dd_Plans_findTwo_76 ?_
          refine mj_iload_n (pc := 77) (i := 2) rfl dd_Plans_findTwo_77 ?_
          refine mj_iadd (pc := 78) dd_Plans_findTwo_78 ?_
          refine mj_aload_n (pc := 79) (i := 0) rfl dd_Plans_findTwo_79 ?_
          refine mj_getR (pc := 80) (b := 33) (k := 9) qf_Plans_32 sh_33 cl_7 rfl (by decide) (r := 28) rfl dd_Plans_findTwo_80 ?_
          refine mj_iload_n (pc := 83) (i := 1) rfl dd_Plans_findTwo_83 ?_
          refine mj_iload_n (pc := 84) (i := 2) rfl dd_Plans_findTwo_84 ?_
          refine mj_callVI (pc := 85) (idx := 85) (b := 28) (As := [.int x1, .int x2]) (st := [.int ((x1 * (6 : Int32)) + x2), .ref 35]) sh_28 cl_9 ev_Stays_onceMore ql_Plans_85 rfl (Nat.le_of_ble_eq_true rfl) (T_Stays_onceMore (g := g) N e (by omega) x1 x2 q8.2) dd_Plans_findTwo_85 (fun q10 hq10 => ?_)
          refine mj_iast (pc := 88) sh_35 dd_Plans_findTwo_88 (fun M11 _ => ?_)
          refine mj_aload_n (pc := 89) (i := 0) rfl dd_Plans_findTwo_89 ?_
          refine mj_iload_n (pc := 90) (i := 1) rfl dd_Plans_findTwo_90 ?_
          refine mj_iload_n (pc := 91) (i := 2) rfl dd_Plans_findTwo_91 ?_
          refine mj_callVV (pc := 92) (idx := 87) (b := 33) (As := [.int x1, .int x2]) (st := []) sh_33 cl_7 ev_Plans_trySecondsBehind ql_Plans_87 rfl (Nat.le_of_ble_eq_true rfl) (T_Plans_trySecondsBehind (g := g) N e (by omega) x1 x2 M11) dd_Plans_findTwo_92 (fun q12 hq12 => ?_)
          refine mj_iinc (pc := 95) (i := 2) (z := (1 : Int32)) rfl (by decide) (by decide) dd_Plans_findTwo_95 ?_
          refine mj_L (L' := [(2, .int (x2 + (1 : Int32))), (0, .ref 33), (1, .int x1)]) [0, 1, 2] rfl ?_
          refine mj_goto (pc := 98) (tgt := 29) dd_Plans_findTwo_98 rfl ?_
          refine mj_L (L' := [(0, .ref 33), (1, .int x1), (2, .int (x2 + (1 : Int32)))]) [1, 2, 0] rfl ?_
          exact ih x1 (x2 + (1 : Int32)) q12
def F_Plans_findTwo_b16 (N : Nat) : Nat → Int32 → mj_M → Option (mj_M)
  | 0, _, _ => none
  | n + 1, x1, M =>
    if (M 13 0) ≤ x1 then
     (some M)
     else
     (F_Plans_findTwo_b29 N (F_Plans_findTwo_b16 N n) N x1 (0 : Int32) M)
set_option maxRecDepth 20000 in
theorem T_Plans_findTwo_b16 {g : mj_G} (N : Nat) (e : Nat) (he : 6 ≤ e) : ∀ (n : Nat) (x1 : Int32) (M : mj_M), mj_X g (mj_qV g) "WinterTellers$Plans" c_Plans_findTwo 3 none e 16 [(0, .ref 33), (1, .int x1)] [] M (F_Plans_findTwo_b16 N n x1 M) := by
  intro n
  induction n with
  | zero => intro x1 M; exact mj_none
  | succ n ih =>
    intro x1 M
    rw [F_Plans_findTwo_b16]
    refine mj_iload_n (pc := 16) (i := 1) rfl dd_Plans_findTwo_16 ?_
    refine mj_aload_n (pc := 17) (i := 0) rfl dd_Plans_findTwo_17 ?_
    refine mj_getR (pc := 18) (b := 33) (k := 7) qf_Plans_24 sh_33 cl_7 rfl (by decide) (r := 13) rfl dd_Plans_findTwo_18 ?_
    refine mj_getI (pc := 21) (b := 13) (k := 0) qf_Plans_63 sh_13 cl_0 rfl (by decide) rfl dd_Plans_findTwo_21 ?_
    refine mj_icmp_ge (pc := 24) (tgt := 107) dd_Plans_findTwo_24 rfl (fun h4 => ?_) (fun h4 => ?_)
    · exact mj_vret dd_Plans_findTwo_107 rfl rfl
    · refine mj_iconst (pc := 27) (v := (0 : Int32)) (by decide) dd_Plans_findTwo_27 ?_
      refine mj_istore_n (pc := 28) (by decide) dd_Plans_findTwo_28 ?_
      refine mj_L (L' := [(2, .int (0 : Int32)), (0, .ref 33), (1, .int x1)]) [0, 1, 2] rfl ?_
      refine mj_L (L' := [(0, .ref 33), (1, .int x1), (2, .int (0 : Int32))]) [1, 2, 0] rfl ?_
      exact T_Plans_findTwo_b29 (g := g) N e he (F_Plans_findTwo_b16 N n) ih N x1 (0 : Int32) M
def F_Plans_findTwo (N : Nat) (M : mj_M) : Option (mj_M) :=
    mj_lt (mj_u M 33 2 (-1 : Int32)) (fun M1 =>
     mj_lt (mj_u M1 33 3 (-1 : Int32)) (fun M2 =>
     (F_Plans_weighAll N M2).bind (fun q3 =>
     F_Plans_findTwo_b16 N N (0 : Int32) q3)))
set_option maxRecDepth 20000 in
theorem T_Plans_findTwo {g : mj_G} (N : Nat) : ∀ d, 7 ≤ d → ∀ (M : mj_M), mj_Mt g (mj_qV g) d y_Plans_findTwo c_Plans_findTwo 3 none [.ref 33] M (F_Plans_findTwo N M) := by
  intro d hd M
  obtain ⟨e, rfl⟩ : ∃ e, d = e + 1 := ⟨d - 1, by omega⟩
  have he : 6 ≤ e := by omega
  refine mj_met (by decide +kernel) (Nat.le_of_ble_eq_true rfl) ?_
  unfold F_Plans_findTwo
  refine mj_L (L' := [(0, .ref 33)]) [0] rfl ?_
  refine mj_aload_n (pc := 0) (i := 0) rfl dd_Plans_findTwo_0 ?_
  refine mj_iconst (pc := 1) (v := (-1 : Int32)) (by decide) dd_Plans_findTwo_1 ?_
  refine mj_putI (pc := 2) (b := 33) (k := 2) qf_Plans_69 sh_33 cl_7 rfl (by decide) (by decide) rfl rfl rfl dd_Plans_findTwo_2 (fun M1 _ => ?_)
  refine mj_aload_n (pc := 5) (i := 0) rfl dd_Plans_findTwo_5 ?_
  refine mj_iconst (pc := 6) (v := (-1 : Int32)) (by decide) dd_Plans_findTwo_6 ?_
  refine mj_putI (pc := 7) (b := 33) (k := 3) qf_Plans_72 sh_33 cl_7 rfl (by decide) (by decide) rfl rfl rfl dd_Plans_findTwo_7 (fun M2 _ => ?_)
  refine mj_aload_n (pc := 10) (i := 0) rfl dd_Plans_findTwo_10 ?_
  refine mj_callVV (pc := 11) (idx := 75) (b := 33) (As := []) (st := []) sh_33 cl_7 ev_Plans_weighAll ql_Plans_75 rfl (Nat.le_of_ble_eq_true rfl) (T_Plans_weighAll (g := g) N e (by omega) M2) dd_Plans_findTwo_11 (fun q3 hq3 => ?_)
  refine mj_iconst (pc := 14) (v := (0 : Int32)) (by decide) dd_Plans_findTwo_14 ?_
  refine mj_istore_n (pc := 15) (by decide) dd_Plans_findTwo_15 ?_
  refine mj_L (L' := [(1, .int (0 : Int32)), (0, .ref 33)]) [0, 1] rfl ?_
  refine mj_L (L' := [(0, .ref 33), (1, .int (0 : Int32))]) [1, 0] rfl ?_
  exact T_Plans_findTwo_b16 (g := g) N e he N (0 : Int32) q3
def F_W_two (N : Nat) (x1 : Int32) (M : mj_M) : Option (Int32 × mj_M) :=
    (F_Coast_isTold M).bind (fun q1 =>
     if q1.1 = (0) then
     (some ((-1 : Int32), q1.2))
     else
     (if x1 < (0) then
     (some ((-1 : Int32), q1.2))
     else
     (if x1 ≤ (1 : Int32) then
     ((F_Plans_findTwo N q1.2).bind (fun q5 =>
     if x1 = (0) then
     (some (q5 33 2, q5))
     else
     (some (q5 33 3, q5))))
     else
     (some ((-1 : Int32), q1.2)))))
set_option maxRecDepth 20000 in
theorem T_W_two {g : mj_G} (N : Nat) : ∀ d, 8 ≤ d → ∀ (x1 : Int32) (M : mj_M), mj_Mt g (mj_qI g) d y_W_two c_W_two 2 (some .int) [.ref 0, .int x1] M (F_W_two N x1 M) := by
  intro d hd x1 M
  obtain ⟨e, rfl⟩ : ∃ e, d = e + 1 := ⟨d - 1, by omega⟩
  have he : 7 ≤ e := by omega
  refine mj_met (by decide +kernel) (Nat.le_of_ble_eq_true rfl) ?_
  unfold F_W_two
  refine mj_L (L' := [(0, .ref 0), (1, .int x1)]) [0, 1] rfl ?_
  refine mj_aload_n (pc := 0) (i := 0) rfl dd_W_two_0 ?_
  refine mj_getR (pc := 1) (b := 0) (k := 4) qf_W_42 sh_0 cl_11 rfl (by decide) (r := 13) rfl dd_W_two_1 ?_
  refine mj_callVI (pc := 4) (idx := 235) (b := 13) (As := []) (st := []) sh_13 cl_0 ev_Coast_isTold ql_W_235 rfl (Nat.le_of_ble_eq_true rfl) (T_Coast_isTold (g := g) e (by omega) M) dd_W_two_4 (fun q1 hq1 => ?_)
  refine mj_if_eq (pc := 7) (tgt := 19) dd_W_two_7 rfl (fun h2 => ?_) (fun h2 => ?_)
  · refine mj_iconst (pc := 19) (v := (-1 : Int32)) (by decide) dd_W_two_19 ?_
    exact mj_iret dd_W_two_20 rfl rfl
  · refine mj_iload_n (pc := 10) (i := 1) rfl dd_W_two_10 ?_
    refine mj_if_lt (pc := 11) (tgt := 19) dd_W_two_11 rfl (fun h3 => ?_) (fun h3 => ?_)
    · refine mj_iconst (pc := 19) (v := (-1 : Int32)) (by decide) dd_W_two_19 ?_
      exact mj_iret dd_W_two_20 rfl rfl
    · refine mj_iload_n (pc := 14) (i := 1) rfl dd_W_two_14 ?_
      refine mj_iconst (pc := 15) (v := (1 : Int32)) (by decide) dd_W_two_15 ?_
      refine mj_icmp_le (pc := 16) (tgt := 21) dd_W_two_16 rfl (fun h4 => ?_) (fun h4 => ?_)
      · refine mj_aload_n (pc := 21) (i := 0) rfl dd_W_two_21 ?_
        refine mj_getR (pc := 22) (b := 0) (k := 9) qf_W_83 sh_0 cl_11 rfl (by decide) (r := 33) rfl dd_W_two_22 ?_
        refine mj_callVV (pc := 25) (idx := 287) (b := 33) (As := []) (st := []) sh_33 cl_7 ev_Plans_findTwo ql_W_287 rfl (Nat.le_of_ble_eq_true rfl) (T_Plans_findTwo (g := g) N e (by omega) q1.2) dd_W_two_25 (fun q5 hq5 => ?_)
        refine mj_iload_n (pc := 28) (i := 1) rfl dd_W_two_28 ?_
        refine mj_if_ne (pc := 29) (tgt := 42) dd_W_two_29 rfl (fun h6 => ?_) (fun h6 => ?_)
        · refine mj_aload_n (pc := 32) (i := 0) rfl dd_W_two_32 ?_
          refine mj_getR (pc := 33) (b := 0) (k := 9) qf_W_83 sh_0 cl_11 rfl (by decide) (r := 33) rfl dd_W_two_33 ?_
          refine mj_getI (pc := 36) (b := 33) (k := 2) qf_W_290 sh_33 cl_7 rfl (by decide) rfl dd_W_two_36 ?_
          refine mj_goto (pc := 39) (tgt := 49) dd_W_two_39 rfl ?_
          exact mj_iret dd_W_two_49 rfl rfl
        · refine mj_aload_n (pc := 42) (i := 0) rfl dd_W_two_42 ?_
          refine mj_getR (pc := 43) (b := 0) (k := 9) qf_W_83 sh_0 cl_11 rfl (by decide) (r := 33) rfl dd_W_two_43 ?_
          refine mj_getI (pc := 46) (b := 33) (k := 3) qf_W_293 sh_33 cl_7 rfl (by decide) rfl dd_W_two_46 ?_
          exact mj_iret dd_W_two_49 rfl rfl
      · refine mj_iconst (pc := 19) (v := (-1 : Int32)) (by decide) dd_W_two_19 ?_
        exact mj_iret dd_W_two_20 rfl rfl
def F_M_putAside_b2 (N : Nat) : Nat → Int32 → Int32 → mj_M → Option (mj_M)
  | 0, _, _, _ => none
  | n + 1, x1, x2, M =>
    if (48 : Int32) ≤ x2 then
     (some M)
     else
     (mj_ck x2 229 (
     mj_ck (((48 : Int32) * x1) + x2) 144 (mj_lt (mj_u M 68 (((48 : Int32) * x1) + x2).toNatClampNeg (M 65 x2.toNatClampNeg)) (fun M2 =>
     F_M_putAside_b2 N n x1 (x2 + (1 : Int32)) M2))))
set_option maxRecDepth 20000 in
theorem T_M_putAside_b2 {g : mj_G} (N : Nat) (e : Nat) (he : 0 ≤ e) : ∀ (n : Nat) (x1 : Int32) (x2 : Int32) (M : mj_M), mj_X g (mj_qV g) "WinterTellersModel" c_M_putAside 3 none e 2 [(0, .ref 48), (1, .int x1), (2, .int x2)] [] M (F_M_putAside_b2 N n x1 x2 M) := by
  intro n
  induction n with
  | zero => intro x1 x2 M; exact mj_none
  | succ n ih =>
    intro x1 x2 M
    rw [F_M_putAside_b2]
    refine mj_iload_n (pc := 2) (i := 2) rfl dd_M_putAside_2 ?_
    refine mj_bipush (pc := 3) (v := (48 : Int32)) (by decide) dd_M_putAside_3 ?_
    refine mj_icmp_ge (pc := 5) (tgt := 31) dd_M_putAside_5 rfl (fun h1 => ?_) (fun h1 => ?_)
    · exact mj_vret dd_M_putAside_31 rfl rfl
    · refine mj_aload_n (pc := 8) (i := 0) rfl dd_M_putAside_8 ?_
      refine mj_getR (pc := 9) (b := 48) (k := 34) qf_M_74 sh_48 cl_12 rfl (by decide) (r := 68) rfl dd_M_putAside_9 ?_
      refine mj_bipush (pc := 12) (v := (48 : Int32)) (by decide) dd_M_putAside_12 ?_
      refine mj_iload_n (pc := 14) (i := 1) rfl dd_M_putAside_14 ?_
      refine mj_imul (pc := 15) dd_M_putAside_15 ?_
      refine mj_iload_n (pc := 16) (i := 2) rfl dd_M_putAside_16 ?_
      refine mj_iadd (pc := 17) dd_M_putAside_17 ?_
      refine mj_aload_n (pc := 18) (i := 0) rfl dd_M_putAside_18 ?_
      refine mj_getR (pc := 19) (b := 48) (k := 27) qf_M_58 sh_48 cl_12 rfl (by decide) (r := 65) rfl dd_M_putAside_19 ?_
      refine mj_iload_n (pc := 22) (i := 2) rfl dd_M_putAside_22 ?_
      refine mj_iald (pc := 23) sh_65 dd_M_putAside_23 ?_
      refine mj_iast (pc := 24) sh_68 dd_M_putAside_24 (fun M2 _ => ?_)
      refine mj_iinc (pc := 25) (i := 2) (z := (1 : Int32)) rfl (by decide) (by decide) dd_M_putAside_25 ?_
      refine mj_L (L' := [(2, .int (x2 + (1 : Int32))), (0, .ref 48), (1, .int x1)]) [0, 1, 2] rfl ?_
      refine mj_goto (pc := 28) (tgt := 2) dd_M_putAside_28 rfl ?_
      refine mj_L (L' := [(0, .ref 48), (1, .int x1), (2, .int (x2 + (1 : Int32)))]) [1, 2, 0] rfl ?_
      exact ih x1 (x2 + (1 : Int32)) M2
def F_M_putAside (N : Nat) (x1 : Int32) (M : mj_M) : Option (mj_M) :=
    F_M_putAside_b2 N N x1 (0 : Int32) M
set_option maxRecDepth 20000 in
theorem T_M_putAside {g : mj_G} (N : Nat) : ∀ d, 1 ≤ d → ∀ (x1 : Int32) (M : mj_M), mj_Mt g (mj_qV g) d y_M_putAside c_M_putAside 3 none [.ref 48, .int x1] M (F_M_putAside N x1 M) := by
  intro d hd x1 M
  obtain ⟨e, rfl⟩ : ∃ e, d = e + 1 := ⟨d - 1, by omega⟩
  have he : 0 ≤ e := by omega
  refine mj_met (by decide +kernel) (Nat.le_of_ble_eq_true rfl) ?_
  unfold F_M_putAside
  refine mj_L (L' := [(0, .ref 48), (1, .int x1)]) [0, 1] rfl ?_
  refine mj_iconst (pc := 0) (v := (0 : Int32)) (by decide) dd_M_putAside_0 ?_
  refine mj_istore_n (pc := 1) (by decide) dd_M_putAside_1 ?_
  refine mj_L (L' := [(2, .int (0 : Int32)), (0, .ref 48), (1, .int x1)]) [0, 1, 2] rfl ?_
  refine mj_L (L' := [(0, .ref 48), (1, .int x1), (2, .int (0 : Int32))]) [1, 2, 0] rfl ?_
  exact T_M_putAside_b2 (g := g) N e he N x1 (0 : Int32) M
def F_M_takeBack_b2 (N : Nat) : Nat → Int32 → Int32 → mj_M → Option (mj_M)
  | 0, _, _, _ => none
  | n + 1, x1, x2, M =>
    if (48 : Int32) ≤ x2 then
     (some M)
     else
     (mj_ck (((48 : Int32) * x1) + x2) 144 (
     mj_ck x2 229 (mj_lt (mj_u M 65 x2.toNatClampNeg (M 68 (((48 : Int32) * x1) + x2).toNatClampNeg)) (fun M2 =>
     F_M_takeBack_b2 N n x1 (x2 + (1 : Int32)) M2))))
set_option maxRecDepth 20000 in
theorem T_M_takeBack_b2 {g : mj_G} (N : Nat) (e : Nat) (he : 0 ≤ e) : ∀ (n : Nat) (x1 : Int32) (x2 : Int32) (M : mj_M), mj_X g (mj_qV g) "WinterTellersModel" c_M_takeBack 3 none e 2 [(0, .ref 48), (1, .int x1), (2, .int x2)] [] M (F_M_takeBack_b2 N n x1 x2 M) := by
  intro n
  induction n with
  | zero => intro x1 x2 M; exact mj_none
  | succ n ih =>
    intro x1 x2 M
    rw [F_M_takeBack_b2]
    refine mj_iload_n (pc := 2) (i := 2) rfl dd_M_takeBack_2 ?_
    refine mj_bipush (pc := 3) (v := (48 : Int32)) (by decide) dd_M_takeBack_3 ?_
    refine mj_icmp_ge (pc := 5) (tgt := 31) dd_M_takeBack_5 rfl (fun h1 => ?_) (fun h1 => ?_)
    · exact mj_vret dd_M_takeBack_31 rfl rfl
    · refine mj_aload_n (pc := 8) (i := 0) rfl dd_M_takeBack_8 ?_
      refine mj_getR (pc := 9) (b := 48) (k := 27) qf_M_58 sh_48 cl_12 rfl (by decide) (r := 65) rfl dd_M_takeBack_9 ?_
      refine mj_iload_n (pc := 12) (i := 2) rfl dd_M_takeBack_12 ?_
      refine mj_aload_n (pc := 13) (i := 0) rfl dd_M_takeBack_13 ?_
      refine mj_getR (pc := 14) (b := 48) (k := 34) qf_M_74 sh_48 cl_12 rfl (by decide) (r := 68) rfl dd_M_takeBack_14 ?_
      refine mj_bipush (pc := 17) (v := (48 : Int32)) (by decide) dd_M_takeBack_17 ?_
      refine mj_iload_n (pc := 19) (i := 1) rfl dd_M_takeBack_19 ?_
      refine mj_imul (pc := 20) dd_M_takeBack_20 ?_
      refine mj_iload_n (pc := 21) (i := 2) rfl dd_M_takeBack_21 ?_
      refine mj_iadd (pc := 22) dd_M_takeBack_22 ?_
      refine mj_iald (pc := 23) sh_68 dd_M_takeBack_23 ?_
      refine mj_iast (pc := 24) sh_65 dd_M_takeBack_24 (fun M2 _ => ?_)
      refine mj_iinc (pc := 25) (i := 2) (z := (1 : Int32)) rfl (by decide) (by decide) dd_M_takeBack_25 ?_
      refine mj_L (L' := [(2, .int (x2 + (1 : Int32))), (0, .ref 48), (1, .int x1)]) [0, 1, 2] rfl ?_
      refine mj_goto (pc := 28) (tgt := 2) dd_M_takeBack_28 rfl ?_
      refine mj_L (L' := [(0, .ref 48), (1, .int x1), (2, .int (x2 + (1 : Int32)))]) [1, 2, 0] rfl ?_
      exact ih x1 (x2 + (1 : Int32)) M2
def F_M_takeBack (N : Nat) (x1 : Int32) (M : mj_M) : Option (mj_M) :=
    F_M_takeBack_b2 N N x1 (0 : Int32) M
set_option maxRecDepth 20000 in
theorem T_M_takeBack {g : mj_G} (N : Nat) : ∀ d, 1 ≤ d → ∀ (x1 : Int32) (M : mj_M), mj_Mt g (mj_qV g) d y_M_takeBack c_M_takeBack 3 none [.ref 48, .int x1] M (F_M_takeBack N x1 M) := by
  intro d hd x1 M
  obtain ⟨e, rfl⟩ : ∃ e, d = e + 1 := ⟨d - 1, by omega⟩
  have he : 0 ≤ e := by omega
  refine mj_met (by decide +kernel) (Nat.le_of_ble_eq_true rfl) ?_
  unfold F_M_takeBack
  refine mj_L (L' := [(0, .ref 48), (1, .int x1)]) [0, 1] rfl ?_
  refine mj_iconst (pc := 0) (v := (0 : Int32)) (by decide) dd_M_takeBack_0 ?_
  refine mj_istore_n (pc := 1) (by decide) dd_M_takeBack_1 ?_
  refine mj_L (L' := [(2, .int (0 : Int32)), (0, .ref 48), (1, .int x1)]) [0, 1, 2] rfl ?_
  refine mj_L (L' := [(0, .ref 48), (1, .int x1), (2, .int (0 : Int32))]) [1, 2, 0] rfl ?_
  exact T_M_takeBack_b2 (g := g) N e he N x1 (0 : Int32) M
