/-! ===== functions and their proofs ===== -/
def F_Tape_signsOf_b5 (N : Nat) : Nat → Int32 → Int32 → Int32 → mj_M → Option (Int32 × mj_M)
  | 0, _, _, _, _ => none
  | n + 1, x0, x1, x2, M =>
    if x2 < (0) then
     (some (x1, M))
     else
     (if ((mj_us x0 x2) &&& (255 : Int32)) = (0) then
     (F_Tape_signsOf_b5 N n x0 x1 (x2 + (-8 : Int32)) M)
     else
     (F_Tape_signsOf_b5 N n x0 (x1 + (1 : Int32)) (x2 + (-8 : Int32)) M))
set_option maxRecDepth 20000 in
theorem T_Tape_signsOf_b5 {g : mj_G} (N : Nat) (e : Nat) (he : 0 ≤ e) : ∀ (n : Nat) (x0 : Int32) (x1 : Int32) (x2 : Int32) (M : mj_M), mj_X g (mj_qI g) "WinterTellers$Tape" c_Tape_signsOf 3 (some .int) e 5 [(0, .int x0), (1, .int x1), (2, .int x2)] [] M (F_Tape_signsOf_b5 N n x0 x1 x2 M) := by
  intro n
  induction n with
  | zero => intro x0 x1 x2 M; exact mj_none
  | succ n ih =>
    intro x0 x1 x2 M
    rw [F_Tape_signsOf_b5]
    refine mj_iload_n (pc := 5) (i := 2) rfl dd_Tape_signsOf_5 ?_
    refine mj_if_lt (pc := 6) (tgt := 28) dd_Tape_signsOf_6 rfl (fun h1 => ?_) (fun h1 => ?_)
    · refine mj_iload_n (pc := 28) (i := 1) rfl dd_Tape_signsOf_28 ?_
      exact mj_iret dd_Tape_signsOf_29 rfl rfl
    · refine mj_iload_n (pc := 9) (i := 0) rfl dd_Tape_signsOf_9 ?_
      refine mj_iload_n (pc := 10) (i := 2) rfl dd_Tape_signsOf_10 ?_
      refine mj_iushr (pc := 11) dd_Tape_signsOf_11 ?_
      refine mj_sipush (pc := 12) (v := (255 : Int32)) (by decide) dd_Tape_signsOf_12 ?_
      refine mj_iand (pc := 15) dd_Tape_signsOf_15 ?_
      refine mj_if_eq (pc := 16) (tgt := 22) dd_Tape_signsOf_16 rfl (fun h2 => ?_) (fun h2 => ?_)
      · refine mj_iinc (pc := 22) (i := 2) (z := (-8 : Int32)) rfl (by decide) (by decide) dd_Tape_signsOf_22 ?_
        refine mj_L (L' := [(2, .int (x2 + (-8 : Int32))), (0, .int x0), (1, .int x1)]) [0, 1, 2] rfl ?_
        refine mj_goto (pc := 25) (tgt := 5) dd_Tape_signsOf_25 rfl ?_
        refine mj_L (L' := [(0, .int x0), (1, .int x1), (2, .int (x2 + (-8 : Int32)))]) [1, 2, 0] rfl ?_
        exact ih x0 x1 (x2 + (-8 : Int32)) M
      · refine mj_iinc (pc := 19) (i := 1) (z := (1 : Int32)) rfl (by decide) (by decide) dd_Tape_signsOf_19 ?_
        refine mj_L (L' := [(1, .int (x1 + (1 : Int32))), (0, .int x0), (2, .int x2)]) [0, 1, 2] rfl ?_
        refine mj_iinc (pc := 22) (i := 2) (z := (-8 : Int32)) rfl (by decide) (by decide) dd_Tape_signsOf_22 ?_
        refine mj_L (L' := [(2, .int (x2 + (-8 : Int32))), (1, .int (x1 + (1 : Int32))), (0, .int x0)]) [0, 1, 2] rfl ?_
        refine mj_goto (pc := 25) (tgt := 5) dd_Tape_signsOf_25 rfl ?_
        refine mj_L (L' := [(0, .int x0), (1, .int (x1 + (1 : Int32))), (2, .int (x2 + (-8 : Int32)))]) [2, 1, 0] rfl ?_
        exact ih x0 (x1 + (1 : Int32)) (x2 + (-8 : Int32)) M
def F_Tape_signsOf (N : Nat) (x0 : Int32) (M : mj_M) : Option (Int32 × mj_M) :=
    F_Tape_signsOf_b5 N N x0 (0 : Int32) (24 : Int32) M
set_option maxRecDepth 20000 in
theorem T_Tape_signsOf {g : mj_G} (N : Nat) : ∀ d, 1 ≤ d → ∀ (x0 : Int32) (M : mj_M), mj_Mt g (mj_qI g) d y_Tape_signsOf c_Tape_signsOf 3 (some .int) [.int x0] M (F_Tape_signsOf N x0 M) := by
  intro d hd x0 M
  obtain ⟨e, rfl⟩ : ∃ e, d = e + 1 := ⟨d - 1, by omega⟩
  have he : 0 ≤ e := by omega
  refine mj_met (by decide +kernel) (Nat.le_of_ble_eq_true rfl) ?_
  unfold F_Tape_signsOf
  refine mj_L (L' := [(0, .int x0)]) [0] rfl ?_
  refine mj_iconst (pc := 0) (v := (0 : Int32)) (by decide) dd_Tape_signsOf_0 ?_
  refine mj_istore_n (pc := 1) (by decide) dd_Tape_signsOf_1 ?_
  refine mj_L (L' := [(1, .int (0 : Int32)), (0, .int x0)]) [0, 1] rfl ?_
  refine mj_bipush (pc := 2) (v := (24 : Int32)) (by decide) dd_Tape_signsOf_2 ?_
  refine mj_istore_n (pc := 4) (by decide) dd_Tape_signsOf_4 ?_
  refine mj_L (L' := [(2, .int (24 : Int32)), (1, .int (0 : Int32)), (0, .int x0)]) [0, 1, 2] rfl ?_
  refine mj_L (L' := [(0, .int x0), (1, .int (0 : Int32)), (2, .int (24 : Int32))]) [2, 1, 0] rfl ?_
  exact T_Tape_signsOf_b5 (g := g) N e he N x0 (0 : Int32) (24 : Int32) M
def F_Tape_add_b3 (N : Nat) : Nat → Int32 → Int32 → mj_M → Option (mj_M)
  | 0, _, _, _ => none
  | n + 1, x1, x2, M =>
    if x2 < (0) then
     (some M)
     else
     (mj_lt ((mj_us x1 x2) &&& (255 : Int32)) (fun v2 =>
     if v2 = (0) then
     (F_Tape_add_b3 N n x1 (x2 + (-8 : Int32)) M)
     else
     (if (240 : Int32) ≤ (M 2 1) then
     (F_Tape_add_b3 N n x1 (x2 + (-8 : Int32)) M)
     else
     (mj_ck (M 2 1) 240 (mj_lt (mj_u M 3 (M 2 1).toNatClampNeg v2) (fun M5 =>
     mj_lt (mj_u M5 2 1 ((M5 2 1) + (1 : Int32))) (fun M6 =>
     F_Tape_add_b3 N n x1 (x2 + (-8 : Int32)) M6)))))))
set_option maxRecDepth 20000 in
theorem T_Tape_add_b3 {g : mj_G} (N : Nat) (e : Nat) (he : 0 ≤ e) : ∀ (n : Nat) (x1 : Int32) (x2 : Int32) (M : mj_M), mj_X g (mj_qV g) "WinterTellers$Tape" c_Tape_add 4 none e 3 [(0, .ref 2), (1, .int x1), (2, .int x2)] [] M (F_Tape_add_b3 N n x1 x2 M) := by
  intro n
  induction n with
  | zero => intro x1 x2 M; exact mj_none
  | succ n ih =>
    intro x1 x2 M
    rw [F_Tape_add_b3]
    refine mj_iload_n (pc := 3) (i := 2) rfl dd_Tape_add_3 ?_
    refine mj_if_lt (pc := 4) (tgt := 55) dd_Tape_add_4 rfl (fun h1 => ?_) (fun h1 => ?_)
    · exact mj_vret dd_Tape_add_55 rfl rfl
    · refine mj_iload_n (pc := 7) (i := 1) rfl dd_Tape_add_7 ?_
      refine mj_iload_n (pc := 8) (i := 2) rfl dd_Tape_add_8 ?_
      refine mj_iushr (pc := 9) dd_Tape_add_9 ?_
      refine mj_sipush (pc := 10) (v := (255 : Int32)) (by decide) dd_Tape_add_10 ?_
      refine mj_iand (pc := 13) dd_Tape_add_13 ?_
      refine mj_istore_nL (pc := 14) (by decide) dd_Tape_add_14 (fun v2 _ => ?_)
      refine mj_L (L' := [(3, .int v2), (0, .ref 2), (1, .int x1), (2, .int x2)]) [0, 1, 2, 3] rfl ?_
      refine mj_iload_n (pc := 15) (i := 3) rfl dd_Tape_add_15 ?_
      refine mj_if_eq (pc := 16) (tgt := 49) dd_Tape_add_16 rfl (fun h3 => ?_) (fun h3 => ?_)
      · refine mj_iinc (pc := 49) (i := 2) (z := (-8 : Int32)) rfl (by decide) (by decide) dd_Tape_add_49 ?_
        refine mj_L (L' := [(2, .int (x2 + (-8 : Int32))), (0, .ref 2), (1, .int x1)]) [0, 2, 3] rfl ?_
        refine mj_goto (pc := 52) (tgt := 3) dd_Tape_add_52 rfl ?_
        refine mj_L (L' := [(0, .ref 2), (1, .int x1), (2, .int (x2 + (-8 : Int32)))]) [1, 2, 0] rfl ?_
        exact ih x1 (x2 + (-8 : Int32)) M
      · refine mj_aload_n (pc := 19) (i := 0) rfl dd_Tape_add_19 ?_
        refine mj_getI (pc := 20) (b := 2) (k := 1) qf_Tape_15 sh_2 cl_10 rfl (by decide) rfl dd_Tape_add_20 ?_
        refine mj_sipush (pc := 23) (v := (240 : Int32)) (by decide) dd_Tape_add_23 ?_
        refine mj_icmp_ge (pc := 26) (tgt := 49) dd_Tape_add_26 rfl (fun h4 => ?_) (fun h4 => ?_)
        · refine mj_iinc (pc := 49) (i := 2) (z := (-8 : Int32)) rfl (by decide) (by decide) dd_Tape_add_49 ?_
          refine mj_L (L' := [(2, .int (x2 + (-8 : Int32))), (0, .ref 2), (1, .int x1)]) [0, 2, 3] rfl ?_
          refine mj_goto (pc := 52) (tgt := 3) dd_Tape_add_52 rfl ?_
          refine mj_L (L' := [(0, .ref 2), (1, .int x1), (2, .int (x2 + (-8 : Int32)))]) [1, 2, 0] rfl ?_
          exact ih x1 (x2 + (-8 : Int32)) M
        · refine mj_aload_n (pc := 29) (i := 0) rfl dd_Tape_add_29 ?_
          refine mj_getR (pc := 30) (b := 2) (k := 0) qf_Tape_11 sh_2 cl_10 rfl (by decide) (r := 3) rfl dd_Tape_add_30 ?_
          refine mj_aload_n (pc := 33) (i := 0) rfl dd_Tape_add_33 ?_
          refine mj_getI (pc := 34) (b := 2) (k := 1) qf_Tape_15 sh_2 cl_10 rfl (by decide) rfl dd_Tape_add_34 ?_
          refine mj_iload_n (pc := 37) (i := 3) rfl dd_Tape_add_37 ?_
          refine mj_iast (pc := 38) sh_3 dd_Tape_add_38 (fun M5 _ => ?_)
          refine mj_aload_n (pc := 39) (i := 0) rfl dd_Tape_add_39 ?_
          refine mj_dup (pc := 40) rfl dd_Tape_add_40 ?_
          refine mj_getI (pc := 41) (b := 2) (k := 1) qf_Tape_15 sh_2 cl_10 rfl (by decide) rfl dd_Tape_add_41 ?_
          refine mj_iconst (pc := 44) (v := (1 : Int32)) (by decide) dd_Tape_add_44 ?_
          refine mj_iadd (pc := 45) dd_Tape_add_45 ?_
          refine mj_putI (pc := 46) (b := 2) (k := 1) qf_Tape_15 sh_2 cl_10 rfl (by decide) (by decide) rfl rfl rfl dd_Tape_add_46 (fun M6 _ => ?_)
          refine mj_iinc (pc := 49) (i := 2) (z := (-8 : Int32)) rfl (by decide) (by decide) dd_Tape_add_49 ?_
          refine mj_L (L' := [(2, .int (x2 + (-8 : Int32))), (0, .ref 2), (1, .int x1)]) [0, 2, 3] rfl ?_
          refine mj_goto (pc := 52) (tgt := 3) dd_Tape_add_52 rfl ?_
          refine mj_L (L' := [(0, .ref 2), (1, .int x1), (2, .int (x2 + (-8 : Int32)))]) [1, 2, 0] rfl ?_
          exact ih x1 (x2 + (-8 : Int32)) M6
def F_Tape_add (N : Nat) (x1 : Int32) (M : mj_M) : Option (mj_M) :=
    F_Tape_add_b3 N N x1 (24 : Int32) M
set_option maxRecDepth 20000 in
theorem T_Tape_add {g : mj_G} (N : Nat) : ∀ d, 1 ≤ d → ∀ (x1 : Int32) (M : mj_M), mj_Mt g (mj_qV g) d y_Tape_add c_Tape_add 4 none [.ref 2, .int x1] M (F_Tape_add N x1 M) := by
  intro d hd x1 M
  obtain ⟨e, rfl⟩ : ∃ e, d = e + 1 := ⟨d - 1, by omega⟩
  have he : 0 ≤ e := by omega
  refine mj_met (by decide +kernel) (Nat.le_of_ble_eq_true rfl) ?_
  unfold F_Tape_add
  refine mj_L (L' := [(0, .ref 2), (1, .int x1)]) [0, 1] rfl ?_
  refine mj_bipush (pc := 0) (v := (24 : Int32)) (by decide) dd_Tape_add_0 ?_
  refine mj_istore_n (pc := 2) (by decide) dd_Tape_add_2 ?_
  refine mj_L (L' := [(2, .int (24 : Int32)), (0, .ref 2), (1, .int x1)]) [0, 1, 2] rfl ?_
  refine mj_L (L' := [(0, .ref 2), (1, .int x1), (2, .int (24 : Int32))]) [1, 2, 0] rfl ?_
  exact T_Tape_add_b3 (g := g) N e he N x1 (24 : Int32) M
def F_W_feed (N : Nat) (x1 : Int32) (x2 : Int32) (x3 : Int32) (x4 : Int32) (x5 : Int32) (M : mj_M) : Option (Int32 × mj_M) :=
    (F_Tape_signsOf N x1 M).bind (fun q1 =>
     (F_Tape_signsOf N x2 q1.2).bind (fun q2 =>
     (F_Tape_signsOf N x3 q2.2).bind (fun q3 =>
     (F_Tape_signsOf N x4 q3.2).bind (fun q4 =>
     (F_Tape_signsOf N x5 q4.2).bind (fun q5 =>
     mj_lt ((((q1.1 + q2.1) + q3.1) + q4.1) + q5.1) (fun v6 =>
     if ((q5.2 2 1) + v6) ≤ (240 : Int32) then
     ((F_Tape_add N x1 q5.2).bind (fun q8 =>
     (F_Tape_add N x2 q8).bind (fun q9 =>
     (F_Tape_add N x3 q9).bind (fun q10 =>
     (F_Tape_add N x4 q10).bind (fun q11 =>
     (F_Tape_add N x5 q11).bind (fun q12 =>
     some (q12 2 1, q12)))))))
     else
     (some ((-1 : Int32), q5.2))))))))
set_option maxRecDepth 20000 in
theorem T_W_feed {g : mj_G} (N : Nat) : ∀ d, 2 ≤ d → ∀ (x1 : Int32) (x2 : Int32) (x3 : Int32) (x4 : Int32) (x5 : Int32) (M : mj_M), mj_Mt g (mj_qI g) d y_W_feed c_W_feed 7 (some .int) [.ref 0, .int x1, .int x2, .int x3, .int x4, .int x5] M (F_W_feed N x1 x2 x3 x4 x5 M) := by
  intro d hd x1 x2 x3 x4 x5 M
  obtain ⟨e, rfl⟩ : ∃ e, d = e + 1 := ⟨d - 1, by omega⟩
  have he : 1 ≤ e := by omega
  refine mj_met (by decide +kernel) (Nat.le_of_ble_eq_true rfl) ?_
  unfold F_W_feed
  refine mj_L (L' := [(0, .ref 0), (1, .int x1), (2, .int x2), (3, .int x3), (4, .int x4), (5, .int x5)]) [0, 1, 2, 3, 4, 5] rfl ?_
  refine mj_iload_n (pc := 0) (i := 1) rfl dd_W_feed_0 ?_
  refine mj_callSI (pc := 1) (idx := 102) (As := [.int x1]) (st := []) es_Tape_signsOf ql_W_102 rfl (Nat.le_of_ble_eq_true rfl) (T_Tape_signsOf (g := g) N e (by omega) x1 M) dd_W_feed_1 (fun q1 hq1 => ?_)
  refine mj_iload_n (pc := 4) (i := 2) rfl dd_W_feed_4 ?_
  refine mj_callSI (pc := 5) (idx := 102) (As := [.int x2]) (st := [.int q1.1]) es_Tape_signsOf ql_W_102 rfl (Nat.le_of_ble_eq_true rfl) (T_Tape_signsOf (g := g) N e (by omega) x2 q1.2) dd_W_feed_5 (fun q2 hq2 => ?_)
  refine mj_iadd (pc := 8) dd_W_feed_8 ?_
  refine mj_iload_n (pc := 9) (i := 3) rfl dd_W_feed_9 ?_
  refine mj_callSI (pc := 10) (idx := 102) (As := [.int x3]) (st := [.int (q1.1 + q2.1)]) es_Tape_signsOf ql_W_102 rfl (Nat.le_of_ble_eq_true rfl) (T_Tape_signsOf (g := g) N e (by omega) x3 q2.2) dd_W_feed_10 (fun q3 hq3 => ?_)
  refine mj_iadd (pc := 13) dd_W_feed_13 ?_
  refine mj_iload (pc := 14) (i := 4) rfl dd_W_feed_14 ?_
  refine mj_callSI (pc := 16) (idx := 102) (As := [.int x4]) (st := [.int ((q1.1 + q2.1) + q3.1)]) es_Tape_signsOf ql_W_102 rfl (Nat.le_of_ble_eq_true rfl) (T_Tape_signsOf (g := g) N e (by omega) x4 q3.2) dd_W_feed_16 (fun q4 hq4 => ?_)
  refine mj_iadd (pc := 19) dd_W_feed_19 ?_
  refine mj_iload (pc := 20) (i := 5) rfl dd_W_feed_20 ?_
  refine mj_callSI (pc := 22) (idx := 102) (As := [.int x5]) (st := [.int (((q1.1 + q2.1) + q3.1) + q4.1)]) es_Tape_signsOf ql_W_102 rfl (Nat.le_of_ble_eq_true rfl) (T_Tape_signsOf (g := g) N e (by omega) x5 q4.2) dd_W_feed_22 (fun q5 hq5 => ?_)
  refine mj_iadd (pc := 25) dd_W_feed_25 ?_
  refine mj_istoreL (pc := 26) (by decide) dd_W_feed_26 (fun v6 _ => ?_)
  refine mj_L (L' := [(6, .int v6), (0, .ref 0), (1, .int x1), (2, .int x2), (3, .int x3), (4, .int x4), (5, .int x5)]) [0, 1, 2, 3, 4, 5, 6] rfl ?_
  refine mj_aload_n (pc := 28) (i := 0) rfl dd_W_feed_28 ?_
  refine mj_getR (pc := 29) (b := 0) (k := 0) qf_W_12 sh_0 cl_11 rfl (by decide) (r := 2) rfl dd_W_feed_29 ?_
  refine mj_getI (pc := 32) (b := 2) (k := 1) qf_W_106 sh_2 cl_10 rfl (by decide) rfl dd_W_feed_32 ?_
  refine mj_iload (pc := 35) (i := 6) rfl dd_W_feed_35 ?_
  refine mj_iadd (pc := 37) dd_W_feed_37 ?_
  refine mj_sipush (pc := 38) (v := (240 : Int32)) (by decide) dd_W_feed_38 ?_
  refine mj_icmp_le (pc := 41) (tgt := 46) dd_W_feed_41 rfl (fun h7 => ?_) (fun h7 => ?_)
  · refine mj_aload_n (pc := 46) (i := 0) rfl dd_W_feed_46 ?_
    refine mj_getR (pc := 47) (b := 0) (k := 0) qf_W_12 sh_0 cl_11 rfl (by decide) (r := 2) rfl dd_W_feed_47 ?_
    refine mj_iload_n (pc := 50) (i := 1) rfl dd_W_feed_50 ?_
    refine mj_callVV (pc := 51) (idx := 109) (b := 2) (As := [.int x1]) (st := []) sh_2 cl_10 ev_Tape_add ql_W_109 rfl (Nat.le_of_ble_eq_true rfl) (T_Tape_add (g := g) N e (by omega) x1 q5.2) dd_W_feed_51 (fun q8 hq8 => ?_)
    refine mj_aload_n (pc := 54) (i := 0) rfl dd_W_feed_54 ?_
    refine mj_getR (pc := 55) (b := 0) (k := 0) qf_W_12 sh_0 cl_11 rfl (by decide) (r := 2) rfl dd_W_feed_55 ?_
    refine mj_iload_n (pc := 58) (i := 2) rfl dd_W_feed_58 ?_
    refine mj_callVV (pc := 59) (idx := 109) (b := 2) (As := [.int x2]) (st := []) sh_2 cl_10 ev_Tape_add ql_W_109 rfl (Nat.le_of_ble_eq_true rfl) (T_Tape_add (g := g) N e (by omega) x2 q8) dd_W_feed_59 (fun q9 hq9 => ?_)
    refine mj_aload_n (pc := 62) (i := 0) rfl dd_W_feed_62 ?_
    refine mj_getR (pc := 63) (b := 0) (k := 0) qf_W_12 sh_0 cl_11 rfl (by decide) (r := 2) rfl dd_W_feed_63 ?_
    refine mj_iload_n (pc := 66) (i := 3) rfl dd_W_feed_66 ?_
    refine mj_callVV (pc := 67) (idx := 109) (b := 2) (As := [.int x3]) (st := []) sh_2 cl_10 ev_Tape_add ql_W_109 rfl (Nat.le_of_ble_eq_true rfl) (T_Tape_add (g := g) N e (by omega) x3 q9) dd_W_feed_67 (fun q10 hq10 => ?_)
    refine mj_aload_n (pc := 70) (i := 0) rfl dd_W_feed_70 ?_
    refine mj_getR (pc := 71) (b := 0) (k := 0) qf_W_12 sh_0 cl_11 rfl (by decide) (r := 2) rfl dd_W_feed_71 ?_
    refine mj_iload (pc := 74) (i := 4) rfl dd_W_feed_74 ?_
    refine mj_callVV (pc := 76) (idx := 109) (b := 2) (As := [.int x4]) (st := []) sh_2 cl_10 ev_Tape_add ql_W_109 rfl (Nat.le_of_ble_eq_true rfl) (T_Tape_add (g := g) N e (by omega) x4 q10) dd_W_feed_76 (fun q11 hq11 => ?_)
    refine mj_aload_n (pc := 79) (i := 0) rfl dd_W_feed_79 ?_
    refine mj_getR (pc := 80) (b := 0) (k := 0) qf_W_12 sh_0 cl_11 rfl (by decide) (r := 2) rfl dd_W_feed_80 ?_
    refine mj_iload (pc := 83) (i := 5) rfl dd_W_feed_83 ?_
    refine mj_callVV (pc := 85) (idx := 109) (b := 2) (As := [.int x5]) (st := []) sh_2 cl_10 ev_Tape_add ql_W_109 rfl (Nat.le_of_ble_eq_true rfl) (T_Tape_add (g := g) N e (by omega) x5 q11) dd_W_feed_85 (fun q12 hq12 => ?_)
    refine mj_aload_n (pc := 88) (i := 0) rfl dd_W_feed_88 ?_
    refine mj_getR (pc := 89) (b := 0) (k := 0) qf_W_12 sh_0 cl_11 rfl (by decide) (r := 2) rfl dd_W_feed_89 ?_
    refine mj_getI (pc := 92) (b := 2) (k := 1) qf_W_106 sh_2 cl_10 rfl (by decide) rfl dd_W_feed_92 ?_
    exact mj_iret dd_W_feed_95 rfl rfl
  · refine mj_iconst (pc := 44) (v := (-1 : Int32)) (by decide) dd_W_feed_44 ?_
    exact mj_iret dd_W_feed_45 rfl rfl
def F_M_byteOf_b45 (x5 : Int32) (s0 : Int32) (M : mj_M) : Option (Int32 × mj_M) :=
    some ((s0 >>> (((24 : Int32) - ((8 : Int32) * (x5 - x5 / (4 : Int32) * (4 : Int32)))) &&& 31)) &&& (255 : Int32), M)
set_option maxRecDepth 20000 in
theorem T_M_byteOf_b45 {g : mj_G} (e : Nat) (he : 0 ≤ e) (x5 : Int32) (s0 : Int32) (M : mj_M) : mj_X g (mj_qI g) "WinterTellersModel" c_M_byteOf 7 (some .int) e 45 [(5, .int x5)] [.int s0] M (F_M_byteOf_b45 x5 s0 M) := by
  unfold F_M_byteOf_b45
  refine mj_istore (pc := 45) (by decide) dd_M_byteOf_45 ?_
  refine mj_L (L' := [(6, .int s0), (5, .int x5)]) [0, 1] rfl ?_
  refine mj_iload (pc := 47) (i := 6) rfl dd_M_byteOf_47 ?_
  refine mj_bipush (pc := 49) (v := (24 : Int32)) (by decide) dd_M_byteOf_49 ?_
  refine mj_bipush (pc := 51) (v := (8 : Int32)) (by decide) dd_M_byteOf_51 ?_
  refine mj_iload (pc := 53) (i := 5) rfl dd_M_byteOf_53 ?_
  refine mj_iconst (pc := 55) (v := (4 : Int32)) (by decide) dd_M_byteOf_55 ?_
  refine mj_iremK (pc := 56) (by decide) dd_M_byteOf_56 ?_
  refine mj_imul (pc := 57) dd_M_byteOf_57 ?_
  refine mj_isub (pc := 58) dd_M_byteOf_58 ?_
  refine mj_ishr (pc := 59) dd_M_byteOf_59 ?_
  refine mj_sipush (pc := 60) (v := (255 : Int32)) (by decide) dd_M_byteOf_60 ?_
  refine mj_iand (pc := 63) dd_M_byteOf_63 ?_
  exact mj_iret dd_M_byteOf_64 rfl rfl
def F_M_byteOf (x0 : Int32) (x1 : Int32) (x2 : Int32) (x3 : Int32) (x4 : Int32) (x5 : Int32) (M : mj_M) : Option (Int32 × mj_M) :=
    if (4 : Int32) ≤ x5 then
     (if (8 : Int32) ≤ x5 then
     (if (12 : Int32) ≤ x5 then
     (if (16 : Int32) ≤ x5 then
     (F_M_byteOf_b45 x5 x4 M)
     else
     (F_M_byteOf_b45 x5 x3 M))
     else
     (F_M_byteOf_b45 x5 x2 M))
     else
     (F_M_byteOf_b45 x5 x1 M))
     else
     (F_M_byteOf_b45 x5 x0 M)
set_option maxRecDepth 20000 in
theorem T_M_byteOf {g : mj_G} : ∀ d, 1 ≤ d → ∀ (x0 : Int32) (x1 : Int32) (x2 : Int32) (x3 : Int32) (x4 : Int32) (x5 : Int32) (M : mj_M), mj_Mt g (mj_qI g) d y_M_byteOf c_M_byteOf 7 (some .int) [.int x0, .int x1, .int x2, .int x3, .int x4, .int x5] M (F_M_byteOf x0 x1 x2 x3 x4 x5 M) := by
  intro d hd x0 x1 x2 x3 x4 x5 M
  obtain ⟨e, rfl⟩ : ∃ e, d = e + 1 := ⟨d - 1, by omega⟩
  have he : 0 ≤ e := by omega
  refine mj_met (by decide +kernel) (Nat.le_of_ble_eq_true rfl) ?_
  unfold F_M_byteOf
  refine mj_L (L' := [(0, .int x0), (1, .int x1), (2, .int x2), (3, .int x3), (4, .int x4), (5, .int x5)]) [0, 1, 2, 3, 4, 5] rfl ?_
  refine mj_iload (pc := 0) (i := 5) rfl dd_M_byteOf_0 ?_
  refine mj_iconst (pc := 2) (v := (4 : Int32)) (by decide) dd_M_byteOf_2 ?_
  refine mj_icmp_ge (pc := 3) (tgt := 10) dd_M_byteOf_3 rfl (fun h1 => ?_) (fun h1 => ?_)
  · refine mj_iload (pc := 10) (i := 5) rfl dd_M_byteOf_10 ?_
    refine mj_bipush (pc := 12) (v := (8 : Int32)) (by decide) dd_M_byteOf_12 ?_
    refine mj_icmp_ge (pc := 14) (tgt := 21) dd_M_byteOf_14 rfl (fun h2 => ?_) (fun h2 => ?_)
    · refine mj_iload (pc := 21) (i := 5) rfl dd_M_byteOf_21 ?_
      refine mj_bipush (pc := 23) (v := (12 : Int32)) (by decide) dd_M_byteOf_23 ?_
      refine mj_icmp_ge (pc := 25) (tgt := 32) dd_M_byteOf_25 rfl (fun h3 => ?_) (fun h3 => ?_)
      · refine mj_iload (pc := 32) (i := 5) rfl dd_M_byteOf_32 ?_
        refine mj_bipush (pc := 34) (v := (16 : Int32)) (by decide) dd_M_byteOf_34 ?_
        refine mj_icmp_ge (pc := 36) (tgt := 43) dd_M_byteOf_36 rfl (fun h4 => ?_) (fun h4 => ?_)
        · refine mj_iload (pc := 43) (i := 4) rfl dd_M_byteOf_43 ?_
          refine mj_L (L' := [(5, .int x5)]) [5] rfl ?_
          exact T_M_byteOf_b45 (g := g) e he x5 x4 M
        · refine mj_iload_n (pc := 39) (i := 3) rfl dd_M_byteOf_39 ?_
          refine mj_goto (pc := 40) (tgt := 45) dd_M_byteOf_40 rfl ?_
          refine mj_L (L' := [(5, .int x5)]) [5] rfl ?_
          exact T_M_byteOf_b45 (g := g) e he x5 x3 M
      · refine mj_iload_n (pc := 28) (i := 2) rfl dd_M_byteOf_28 ?_
        refine mj_goto (pc := 29) (tgt := 45) dd_M_byteOf_29 rfl ?_
        refine mj_L (L' := [(5, .int x5)]) [5] rfl ?_
        exact T_M_byteOf_b45 (g := g) e he x5 x2 M
    · refine mj_iload_n (pc := 17) (i := 1) rfl dd_M_byteOf_17 ?_
      refine mj_goto (pc := 18) (tgt := 45) dd_M_byteOf_18 rfl ?_
      refine mj_L (L' := [(5, .int x5)]) [5] rfl ?_
      exact T_M_byteOf_b45 (g := g) e he x5 x1 M
  · refine mj_iload_n (pc := 6) (i := 0) rfl dd_M_byteOf_6 ?_
    refine mj_goto (pc := 7) (tgt := 45) dd_M_byteOf_7 rfl ?_
    refine mj_L (L' := [(5, .int x5)]) [5] rfl ?_
    exact T_M_byteOf_b45 (g := g) e he x5 x0 M
def F_M_feed_b62 (N : Nat) : Nat → Int32 → Int32 → Int32 → Int32 → Int32 → Int32 → mj_M → Option (Int32 × mj_M)
  | 0, _, _, _, _, _, _, _ => none
  | n + 1, x1, x2, x3, x4, x5, x7, M =>
    if (20 : Int32) ≤ x7 then
     (some (M 48 2, M))
     else
     ((F_M_byteOf x1 x2 x3 x4 x5 x7 M).bind (fun q8 =>
     if q8.1 = (0) then
     (F_M_feed_b62 N n x1 x2 x3 x4 x5 (x7 + (1 : Int32)) q8.2)
     else
     (mj_ck (q8.2 48 2) 240 (mj_lt (mj_u q8.2 49 (q8.2 48 2).toNatClampNeg q8.1) (fun M10 =>
     mj_lt (mj_u M10 48 2 ((M10 48 2) + (1 : Int32))) (fun M11 =>
     F_M_feed_b62 N n x1 x2 x3 x4 x5 (x7 + (1 : Int32)) M11))))))
set_option maxRecDepth 20000 in
theorem T_M_feed_b62 {g : mj_G} (N : Nat) (e : Nat) (he : 1 ≤ e) : ∀ (n : Nat) (x1 : Int32) (x2 : Int32) (x3 : Int32) (x4 : Int32) (x5 : Int32) (x7 : Int32) (M : mj_M), mj_X g (mj_qI g) "WinterTellersModel" c_M_feed 9 (some .int) e 62 [(0, .ref 48), (1, .int x1), (2, .int x2), (3, .int x3), (4, .int x4), (5, .int x5), (7, .int x7)] [] M (F_M_feed_b62 N n x1 x2 x3 x4 x5 x7 M) := by
  intro n
  induction n with
  | zero => intro x1 x2 x3 x4 x5 x7 M; exact mj_none
  | succ n ih =>
    intro x1 x2 x3 x4 x5 x7 M
    rw [F_M_feed_b62]
    refine mj_iload (pc := 62) (i := 7) rfl dd_M_feed_62 ?_
    refine mj_bipush (pc := 64) (v := (20 : Int32)) (by decide) dd_M_feed_64 ?_
    refine mj_icmp_ge (pc := 66) (tgt := 115) dd_M_feed_66 rfl (fun h7 => ?_) (fun h7 => ?_)
    · refine mj_aload_n (pc := 115) (i := 0) rfl dd_M_feed_115 ?_
      refine mj_getI (pc := 116) (b := 48) (k := 2) qf_M_97 sh_48 cl_12 rfl (by decide) rfl dd_M_feed_116 ?_
      exact mj_iret dd_M_feed_119 rfl rfl
    · refine mj_iload_n (pc := 69) (i := 1) rfl dd_M_feed_69 ?_
      refine mj_iload_n (pc := 70) (i := 2) rfl dd_M_feed_70 ?_
      refine mj_iload_n (pc := 71) (i := 3) rfl dd_M_feed_71 ?_
      refine mj_iload (pc := 72) (i := 4) rfl dd_M_feed_72 ?_
      refine mj_iload (pc := 74) (i := 5) rfl dd_M_feed_74 ?_
      refine mj_iload (pc := 76) (i := 7) rfl dd_M_feed_76 ?_
      refine mj_callSI (pc := 78) (idx := 93) (As := [.int x1, .int x2, .int x3, .int x4, .int x5, .int x7]) (st := []) es_M_byteOf ql_M_93 rfl (Nat.le_of_ble_eq_true rfl) (T_M_byteOf (g := g) e (by omega) x1 x2 x3 x4 x5 x7 M) dd_M_feed_78 (fun q8 hq8 => ?_)
      refine mj_istore (pc := 81) (by decide) dd_M_feed_81 ?_
      refine mj_L (L' := [(8, .int q8.1), (0, .ref 48), (1, .int x1), (2, .int x2), (3, .int x3), (4, .int x4), (5, .int x5), (7, .int x7)]) [0, 1, 2, 3, 4, 5, 6, 7] rfl ?_
      refine mj_iload (pc := 83) (i := 8) rfl dd_M_feed_83 ?_
      refine mj_if_eq (pc := 85) (tgt := 109) dd_M_feed_85 rfl (fun h9 => ?_) (fun h9 => ?_)
      · refine mj_iinc (pc := 109) (i := 7) (z := (1 : Int32)) rfl (by decide) (by decide) dd_M_feed_109 ?_
        refine mj_L (L' := [(7, .int (x7 + (1 : Int32))), (0, .ref 48), (1, .int x1), (2, .int x2), (3, .int x3), (4, .int x4), (5, .int x5)]) [0, 2, 3, 4, 5, 6, 7] rfl ?_
        refine mj_goto (pc := 112) (tgt := 62) dd_M_feed_112 rfl ?_
        refine mj_L (L' := [(0, .ref 48), (1, .int x1), (2, .int x2), (3, .int x3), (4, .int x4), (5, .int x5), (7, .int (x7 + (1 : Int32)))]) [1, 2, 3, 4, 5, 6, 0] rfl ?_
        exact ih x1 x2 x3 x4 x5 (x7 + (1 : Int32)) q8.2
      · refine mj_aload_n (pc := 88) (i := 0) rfl dd_M_feed_88 ?_
        refine mj_getR (pc := 89) (b := 48) (k := 1) qf_M_9 sh_48 cl_12 rfl (by decide) (r := 49) rfl dd_M_feed_89 ?_
        refine mj_aload_n (pc := 92) (i := 0) rfl dd_M_feed_92 ?_
        refine mj_getI (pc := 93) (b := 48) (k := 2) qf_M_97 sh_48 cl_12 rfl (by decide) rfl dd_M_feed_93 ?_
        refine mj_iload (pc := 96) (i := 8) rfl dd_M_feed_96 ?_
        refine mj_iast (pc := 98) sh_49 dd_M_feed_98 (fun M10 _ => ?_)
        refine mj_aload_n (pc := 99) (i := 0) rfl dd_M_feed_99 ?_
        refine mj_dup (pc := 100) rfl dd_M_feed_100 ?_
        refine mj_getI (pc := 101) (b := 48) (k := 2) qf_M_97 sh_48 cl_12 rfl (by decide) rfl dd_M_feed_101 ?_
        refine mj_iconst (pc := 104) (v := (1 : Int32)) (by decide) dd_M_feed_104 ?_
        refine mj_iadd (pc := 105) dd_M_feed_105 ?_
        refine mj_putI (pc := 106) (b := 48) (k := 2) qf_M_97 sh_48 cl_12 rfl (by decide) (by decide) rfl rfl rfl dd_M_feed_106 (fun M11 _ => ?_)
        refine mj_iinc (pc := 109) (i := 7) (z := (1 : Int32)) rfl (by decide) (by decide) dd_M_feed_109 ?_
        refine mj_L (L' := [(7, .int (x7 + (1 : Int32))), (0, .ref 48), (1, .int x1), (2, .int x2), (3, .int x3), (4, .int x4), (5, .int x5)]) [0, 2, 3, 4, 5, 6, 7] rfl ?_
        refine mj_goto (pc := 112) (tgt := 62) dd_M_feed_112 rfl ?_
        refine mj_L (L' := [(0, .ref 48), (1, .int x1), (2, .int x2), (3, .int x3), (4, .int x4), (5, .int x5), (7, .int (x7 + (1 : Int32)))]) [1, 2, 3, 4, 5, 6, 0] rfl ?_
        exact ih x1 x2 x3 x4 x5 (x7 + (1 : Int32)) M11
def F_M_feed_b6 (N : Nat) : Nat → Int32 → Int32 → Int32 → Int32 → Int32 → Int32 → Int32 → mj_M → Option (Int32 × mj_M)
  | 0, _, _, _, _, _, _, _, _ => none
  | n + 1, x1, x2, x3, x4, x5, x6, x7, M =>
    if (20 : Int32) ≤ x7 then
     (if ((M 48 2) + x6) ≤ (240 : Int32) then
     (F_M_feed_b62 N N x1 x2 x3 x4 x5 (0 : Int32) M)
     else
     (some ((-1 : Int32), M)))
     else
     ((F_M_byteOf x1 x2 x3 x4 x5 x7 M).bind (fun q3 =>
     if q3.1 = (0) then
     (mj_lt (x6 + (0 : Int32)) (fun v5 =>
     F_M_feed_b6 N n x1 x2 x3 x4 x5 v5 (x7 + (1 : Int32)) q3.2))
     else
     (mj_lt (x6 + (1 : Int32)) (fun v6 =>
     F_M_feed_b6 N n x1 x2 x3 x4 x5 v6 (x7 + (1 : Int32)) q3.2))))
set_option maxRecDepth 20000 in
theorem T_M_feed_b6 {g : mj_G} (N : Nat) (e : Nat) (he : 1 ≤ e) : ∀ (n : Nat) (x1 : Int32) (x2 : Int32) (x3 : Int32) (x4 : Int32) (x5 : Int32) (x6 : Int32) (x7 : Int32) (M : mj_M), mj_X g (mj_qI g) "WinterTellersModel" c_M_feed 9 (some .int) e 6 [(0, .ref 48), (1, .int x1), (2, .int x2), (3, .int x3), (4, .int x4), (5, .int x5), (6, .int x6), (7, .int x7)] [] M (F_M_feed_b6 N n x1 x2 x3 x4 x5 x6 x7 M) := by
  intro n
  induction n with
  | zero => intro x1 x2 x3 x4 x5 x6 x7 M; exact mj_none
  | succ n ih =>
    intro x1 x2 x3 x4 x5 x6 x7 M
    rw [F_M_feed_b6]
    refine mj_iload (pc := 6) (i := 7) rfl dd_M_feed_6 ?_
    refine mj_bipush (pc := 8) (v := (20 : Int32)) (by decide) dd_M_feed_8 ?_
    refine mj_icmp_ge (pc := 10) (tgt := 44) dd_M_feed_10 rfl (fun h1 => ?_) (fun h1 => ?_)
    · refine mj_aload_n (pc := 44) (i := 0) rfl dd_M_feed_44 ?_
      refine mj_getI (pc := 45) (b := 48) (k := 2) qf_M_97 sh_48 cl_12 rfl (by decide) rfl dd_M_feed_45 ?_
      refine mj_iload (pc := 48) (i := 6) rfl dd_M_feed_48 ?_
      refine mj_iadd (pc := 50) dd_M_feed_50 ?_
      refine mj_sipush (pc := 51) (v := (240 : Int32)) (by decide) dd_M_feed_51 ?_
      refine mj_icmp_le (pc := 54) (tgt := 59) dd_M_feed_54 rfl (fun h2 => ?_) (fun h2 => ?_)
      · refine mj_iconst (pc := 59) (v := (0 : Int32)) (by decide) dd_M_feed_59 ?_
        refine mj_istore (pc := 60) (by decide) dd_M_feed_60 ?_
        refine mj_L (L' := [(7, .int (0 : Int32)), (0, .ref 48), (1, .int x1), (2, .int x2), (3, .int x3), (4, .int x4), (5, .int x5)]) [0, 1, 2, 3, 4, 5, 6] rfl ?_
        refine mj_L (L' := [(0, .ref 48), (1, .int x1), (2, .int x2), (3, .int x3), (4, .int x4), (5, .int x5), (7, .int (0 : Int32))]) [1, 2, 3, 4, 5, 6, 0] rfl ?_
        exact T_M_feed_b62 (g := g) N e he N x1 x2 x3 x4 x5 (0 : Int32) M
      · refine mj_iconst (pc := 57) (v := (-1 : Int32)) (by decide) dd_M_feed_57 ?_
        exact mj_iret dd_M_feed_58 rfl rfl
    · refine mj_iload (pc := 13) (i := 6) rfl dd_M_feed_13 ?_
      refine mj_iload_n (pc := 15) (i := 1) rfl dd_M_feed_15 ?_
      refine mj_iload_n (pc := 16) (i := 2) rfl dd_M_feed_16 ?_
      refine mj_iload_n (pc := 17) (i := 3) rfl dd_M_feed_17 ?_
      refine mj_iload (pc := 18) (i := 4) rfl dd_M_feed_18 ?_
      refine mj_iload (pc := 20) (i := 5) rfl dd_M_feed_20 ?_
      refine mj_iload (pc := 22) (i := 7) rfl dd_M_feed_22 ?_
      refine mj_callSI (pc := 24) (idx := 93) (As := [.int x1, .int x2, .int x3, .int x4, .int x5, .int x7]) (st := [.int x6]) es_M_byteOf ql_M_93 rfl (Nat.le_of_ble_eq_true rfl) (T_M_byteOf (g := g) e (by omega) x1 x2 x3 x4 x5 x7 M) dd_M_feed_24 (fun q3 hq3 => ?_)
      refine mj_if_eq (pc := 27) (tgt := 34) dd_M_feed_27 rfl (fun h4 => ?_) (fun h4 => ?_)
      · refine mj_iconst (pc := 34) (v := (0 : Int32)) (by decide) dd_M_feed_34 ?_
        refine mj_iadd (pc := 35) dd_M_feed_35 ?_
        refine mj_istoreL (pc := 36) (by decide) dd_M_feed_36 (fun v5 _ => ?_)
        refine mj_L (L' := [(6, .int v5), (0, .ref 48), (1, .int x1), (2, .int x2), (3, .int x3), (4, .int x4), (5, .int x5), (7, .int x7)]) [0, 1, 2, 3, 4, 5, 6, 7] rfl ?_
        refine mj_iinc (pc := 38) (i := 7) (z := (1 : Int32)) rfl (by decide) (by decide) dd_M_feed_38 ?_
        refine mj_L (L' := [(7, .int (x7 + (1 : Int32))), (6, .int v5), (0, .ref 48), (1, .int x1), (2, .int x2), (3, .int x3), (4, .int x4), (5, .int x5)]) [0, 1, 2, 3, 4, 5, 6, 7] rfl ?_
        refine mj_goto (pc := 41) (tgt := 6) dd_M_feed_41 rfl ?_
        refine mj_L (L' := [(0, .ref 48), (1, .int x1), (2, .int x2), (3, .int x3), (4, .int x4), (5, .int x5), (6, .int v5), (7, .int (x7 + (1 : Int32)))]) [2, 3, 4, 5, 6, 7, 1, 0] rfl ?_
        exact ih x1 x2 x3 x4 x5 v5 (x7 + (1 : Int32)) q3.2
      · refine mj_iconst (pc := 30) (v := (1 : Int32)) (by decide) dd_M_feed_30 ?_
        refine mj_goto (pc := 31) (tgt := 35) dd_M_feed_31 rfl ?_
        refine mj_iadd (pc := 35) dd_M_feed_35 ?_
        refine mj_istoreL (pc := 36) (by decide) dd_M_feed_36 (fun v6 _ => ?_)
        refine mj_L (L' := [(6, .int v6), (0, .ref 48), (1, .int x1), (2, .int x2), (3, .int x3), (4, .int x4), (5, .int x5), (7, .int x7)]) [0, 1, 2, 3, 4, 5, 6, 7] rfl ?_
        refine mj_iinc (pc := 38) (i := 7) (z := (1 : Int32)) rfl (by decide) (by decide) dd_M_feed_38 ?_
        refine mj_L (L' := [(7, .int (x7 + (1 : Int32))), (6, .int v6), (0, .ref 48), (1, .int x1), (2, .int x2), (3, .int x3), (4, .int x4), (5, .int x5)]) [0, 1, 2, 3, 4, 5, 6, 7] rfl ?_
        refine mj_goto (pc := 41) (tgt := 6) dd_M_feed_41 rfl ?_
        refine mj_L (L' := [(0, .ref 48), (1, .int x1), (2, .int x2), (3, .int x3), (4, .int x4), (5, .int x5), (6, .int v6), (7, .int (x7 + (1 : Int32)))]) [2, 3, 4, 5, 6, 7, 1, 0] rfl ?_
        exact ih x1 x2 x3 x4 x5 v6 (x7 + (1 : Int32)) q3.2
def F_M_feed (N : Nat) (x1 : Int32) (x2 : Int32) (x3 : Int32) (x4 : Int32) (x5 : Int32) (M : mj_M) : Option (Int32 × mj_M) :=
    F_M_feed_b6 N N x1 x2 x3 x4 x5 (0 : Int32) (0 : Int32) M
set_option maxRecDepth 20000 in
theorem T_M_feed {g : mj_G} (N : Nat) : ∀ d, 2 ≤ d → ∀ (x1 : Int32) (x2 : Int32) (x3 : Int32) (x4 : Int32) (x5 : Int32) (M : mj_M), mj_Mt g (mj_qI g) d y_M_feed c_M_feed 9 (some .int) [.ref 48, .int x1, .int x2, .int x3, .int x4, .int x5] M (F_M_feed N x1 x2 x3 x4 x5 M) := by
  intro d hd x1 x2 x3 x4 x5 M
  obtain ⟨e, rfl⟩ : ∃ e, d = e + 1 := ⟨d - 1, by omega⟩
  have he : 1 ≤ e := by omega
  refine mj_met (by decide +kernel) (Nat.le_of_ble_eq_true rfl) ?_
  unfold F_M_feed
  refine mj_L (L' := [(0, .ref 48), (1, .int x1), (2, .int x2), (3, .int x3), (4, .int x4), (5, .int x5)]) [0, 1, 2, 3, 4, 5] rfl ?_
  refine mj_iconst (pc := 0) (v := (0 : Int32)) (by decide) dd_M_feed_0 ?_
  refine mj_istore (pc := 1) (by decide) dd_M_feed_1 ?_
  refine mj_L (L' := [(6, .int (0 : Int32)), (0, .ref 48), (1, .int x1), (2, .int x2), (3, .int x3), (4, .int x4), (5, .int x5)]) [0, 1, 2, 3, 4, 5, 6] rfl ?_
  refine mj_iconst (pc := 3) (v := (0 : Int32)) (by decide) dd_M_feed_3 ?_
  refine mj_istore (pc := 4) (by decide) dd_M_feed_4 ?_
  refine mj_L (L' := [(7, .int (0 : Int32)), (6, .int (0 : Int32)), (0, .ref 48), (1, .int x1), (2, .int x2), (3, .int x3), (4, .int x4), (5, .int x5)]) [0, 1, 2, 3, 4, 5, 6, 7] rfl ?_
  refine mj_L (L' := [(0, .ref 48), (1, .int x1), (2, .int x2), (3, .int x3), (4, .int x4), (5, .int x5), (6, .int (0 : Int32)), (7, .int (0 : Int32))]) [2, 3, 4, 5, 6, 7, 1, 0] rfl ?_
  exact T_M_feed_b6 (g := g) N e he N x1 x2 x3 x4 x5 (0 : Int32) (0 : Int32) M
def F_W_end (x1 : Int32) (M : mj_M) : Option (Int32 × mj_M) :=
    if x1 < (0) then
     (some ((0 : Int32), M))
     else
     (if x1 ≤ (M 2 1) then
     (mj_lt (mj_u M 2 1 x1) (fun M3 =>
     some ((1 : Int32), M3)))
     else
     (some ((0 : Int32), M)))
set_option maxRecDepth 20000 in
theorem T_W_end {g : mj_G} : ∀ d, 1 ≤ d → ∀ (x1 : Int32) (M : mj_M), mj_Mt g (mj_qI g) d y_W_end c_W_end 2 (some .boolean) [.ref 0, .int x1] M (F_W_end x1 M) := by
  intro d hd x1 M
  obtain ⟨e, rfl⟩ : ∃ e, d = e + 1 := ⟨d - 1, by omega⟩
  have he : 0 ≤ e := by omega
  refine mj_met (by decide +kernel) (Nat.le_of_ble_eq_true rfl) ?_
  unfold F_W_end
  refine mj_L (L' := [(0, .ref 0), (1, .int x1)]) [0, 1] rfl ?_
  refine mj_iload_n (pc := 0) (i := 1) rfl dd_W_end_0 ?_
  refine mj_if_lt (pc := 1) (tgt := 15) dd_W_end_1 rfl (fun h1 => ?_) (fun h1 => ?_)
  · refine mj_iconst (pc := 15) (v := (0 : Int32)) (by decide) dd_W_end_15 ?_
    exact mj_zret (by decide) dd_W_end_16 rfl rfl
  · refine mj_iload_n (pc := 4) (i := 1) rfl dd_W_end_4 ?_
    refine mj_aload_n (pc := 5) (i := 0) rfl dd_W_end_5 ?_
    refine mj_getR (pc := 6) (b := 0) (k := 0) qf_W_12 sh_0 cl_11 rfl (by decide) (r := 2) rfl dd_W_end_6 ?_
    refine mj_getI (pc := 9) (b := 2) (k := 1) qf_W_106 sh_2 cl_10 rfl (by decide) rfl dd_W_end_9 ?_
    refine mj_icmp_le (pc := 12) (tgt := 17) dd_W_end_12 rfl (fun h2 => ?_) (fun h2 => ?_)
    · refine mj_aload_n (pc := 17) (i := 0) rfl dd_W_end_17 ?_
      refine mj_getR (pc := 18) (b := 0) (k := 0) qf_W_12 sh_0 cl_11 rfl (by decide) (r := 2) rfl dd_W_end_18 ?_
      refine mj_iload_n (pc := 21) (i := 1) rfl dd_W_end_21 ?_
      refine mj_putI (pc := 22) (b := 2) (k := 1) qf_W_106 sh_2 cl_10 rfl (by decide) (by decide) rfl rfl rfl dd_W_end_22 (fun M3 _ => ?_)
      refine mj_iconst (pc := 25) (v := (1 : Int32)) (by decide) dd_W_end_25 ?_
      exact mj_zret (by decide) dd_W_end_26 rfl rfl
    · refine mj_iconst (pc := 15) (v := (0 : Int32)) (by decide) dd_W_end_15 ?_
      exact mj_zret (by decide) dd_W_end_16 rfl rfl
def F_M_end (x1 : Int32) (M : mj_M) : Option (Int32 × mj_M) :=
    if x1 < (0) then
     (some ((0 : Int32), M))
     else
     (if x1 ≤ (M 48 2) then
     (mj_lt (mj_u M 48 2 x1) (fun M3 =>
     some ((1 : Int32), M3)))
     else
     (some ((0 : Int32), M)))
set_option maxRecDepth 20000 in
theorem T_M_end {g : mj_G} : ∀ d, 1 ≤ d → ∀ (x1 : Int32) (M : mj_M), mj_Mt g (mj_qI g) d y_M_end c_M_end 2 (some .boolean) [.ref 48, .int x1] M (F_M_end x1 M) := by
  intro d hd x1 M
  obtain ⟨e, rfl⟩ : ∃ e, d = e + 1 := ⟨d - 1, by omega⟩
  have he : 0 ≤ e := by omega
  refine mj_met (by decide +kernel) (Nat.le_of_ble_eq_true rfl) ?_
  unfold F_M_end
  refine mj_L (L' := [(0, .ref 48), (1, .int x1)]) [0, 1] rfl ?_
  refine mj_iload_n (pc := 0) (i := 1) rfl dd_M_end_0 ?_
  refine mj_if_lt (pc := 1) (tgt := 12) dd_M_end_1 rfl (fun h1 => ?_) (fun h1 => ?_)
  · refine mj_iconst (pc := 12) (v := (0 : Int32)) (by decide) dd_M_end_12 ?_
    exact mj_zret (by decide) dd_M_end_13 rfl rfl
  · refine mj_iload_n (pc := 4) (i := 1) rfl dd_M_end_4 ?_
    refine mj_aload_n (pc := 5) (i := 0) rfl dd_M_end_5 ?_
    refine mj_getI (pc := 6) (b := 48) (k := 2) qf_M_97 sh_48 cl_12 rfl (by decide) rfl dd_M_end_6 ?_
    refine mj_icmp_le (pc := 9) (tgt := 14) dd_M_end_9 rfl (fun h2 => ?_) (fun h2 => ?_)
    · refine mj_aload_n (pc := 14) (i := 0) rfl dd_M_end_14 ?_
      refine mj_iload_n (pc := 15) (i := 1) rfl dd_M_end_15 ?_
      refine mj_putI (pc := 16) (b := 48) (k := 2) qf_M_97 sh_48 cl_12 rfl (by decide) (by decide) rfl rfl rfl dd_M_end_16 (fun M3 _ => ?_)
      refine mj_iconst (pc := 19) (v := (1 : Int32)) (by decide) dd_M_end_19 ?_
      exact mj_zret (by decide) dd_M_end_20 rfl rfl
    · refine mj_iconst (pc := 12) (v := (0 : Int32)) (by decide) dd_M_end_12 ?_
      exact mj_zret (by decide) dd_M_end_13 rfl rfl
def F_Tape_rewind (M : mj_M) : Option (mj_M) :=
    mj_lt (mj_u M 2 2 (0 : Int32)) (fun M1 =>
     mj_lt (mj_u M1 2 3 (-1 : Int32)) (fun M2 =>
     some M2))
set_option maxRecDepth 20000 in
theorem T_Tape_rewind {g : mj_G} : ∀ d, 1 ≤ d → ∀ (M : mj_M), mj_Mt g (mj_qV g) d y_Tape_rewind c_Tape_rewind 1 none [.ref 2] M (F_Tape_rewind M) := by
  intro d hd M
  obtain ⟨e, rfl⟩ : ∃ e, d = e + 1 := ⟨d - 1, by omega⟩
  have he : 0 ≤ e := by omega
  refine mj_met (by decide +kernel) (Nat.le_of_ble_eq_true rfl) ?_
  unfold F_Tape_rewind
  refine mj_L (L' := [(0, .ref 2)]) [0] rfl ?_
  refine mj_aload_n (pc := 0) (i := 0) rfl dd_Tape_rewind_0 ?_
  refine mj_iconst (pc := 1) (v := (0 : Int32)) (by decide) dd_Tape_rewind_1 ?_
  refine mj_putI (pc := 2) (b := 2) (k := 2) qf_Tape_19 sh_2 cl_10 rfl (by decide) (by decide) rfl rfl rfl dd_Tape_rewind_2 (fun M1 _ => ?_)
  refine mj_aload_n (pc := 5) (i := 0) rfl dd_Tape_rewind_5 ?_
  refine mj_iconst (pc := 6) (v := (-1 : Int32)) (by decide) dd_Tape_rewind_6 ?_
  refine mj_putI (pc := 7) (b := 2) (k := 3) qf_Tape_22 sh_2 cl_10 rfl (by decide) (by decide) rfl rfl rfl dd_Tape_rewind_7 (fun M2 _ => ?_)
  exact mj_vret dd_Tape_rewind_10 rfl rfl
def F_Tape_skipBlanks_b0 (N : Nat) : Nat → mj_M → Option (mj_M)
  | 0, _ => none
  | n + 1, M =>
    if (M 2 1) ≤ (M 2 2) then
     (some M)
     else
     (mj_ck (M 2 2) 240 (
     if (M 3 (M 2 2).toNatClampNeg) = (32 : Int32) then
     (mj_lt (mj_u M 2 2 ((M 2 2) + (1 : Int32))) (fun M3 =>
     F_Tape_skipBlanks_b0 N n M3))
     else
     (some M)))
set_option maxRecDepth 20000 in
theorem T_Tape_skipBlanks_b0 {g : mj_G} (N : Nat) (e : Nat) (he : 0 ≤ e) : ∀ (n : Nat) (M : mj_M), mj_X g (mj_qV g) "WinterTellers$Tape" c_Tape_skipBlanks 1 none e 0 [(0, .ref 2)] [] M (F_Tape_skipBlanks_b0 N n M) := by
  intro n
  induction n with
  | zero => intro M; exact mj_none
  | succ n ih =>
    intro M
    rw [F_Tape_skipBlanks_b0]
    refine mj_aload_n (pc := 0) (i := 0) rfl dd_Tape_skipBlanks_0 ?_
    refine mj_getI (pc := 1) (b := 2) (k := 2) qf_Tape_19 sh_2 cl_10 rfl (by decide) rfl dd_Tape_skipBlanks_1 ?_
    refine mj_aload_n (pc := 4) (i := 0) rfl dd_Tape_skipBlanks_4 ?_
    refine mj_getI (pc := 5) (b := 2) (k := 1) qf_Tape_15 sh_2 cl_10 rfl (by decide) rfl dd_Tape_skipBlanks_5 ?_
    refine mj_icmp_ge (pc := 8) (tgt := 38) dd_Tape_skipBlanks_8 rfl (fun h1 => ?_) (fun h1 => ?_)
    · exact mj_vret dd_Tape_skipBlanks_38 rfl rfl
    · refine mj_aload_n (pc := 11) (i := 0) rfl dd_Tape_skipBlanks_11 ?_
      refine mj_getR (pc := 12) (b := 2) (k := 0) qf_Tape_11 sh_2 cl_10 rfl (by decide) (r := 3) rfl dd_Tape_skipBlanks_12 ?_
      refine mj_aload_n (pc := 15) (i := 0) rfl dd_Tape_skipBlanks_15 ?_
      refine mj_getI (pc := 16) (b := 2) (k := 2) qf_Tape_19 sh_2 cl_10 rfl (by decide) rfl dd_Tape_skipBlanks_16 ?_
      refine mj_iald (pc := 19) sh_3 dd_Tape_skipBlanks_19 ?_
      refine mj_bipush (pc := 20) (v := (32 : Int32)) (by decide) dd_Tape_skipBlanks_20 ?_
      refine mj_icmp_ne (pc := 22) (tgt := 38) dd_Tape_skipBlanks_22 rfl (fun h2 => ?_) (fun h2 => ?_)
      · refine mj_aload_n (pc := 25) (i := 0) rfl dd_Tape_skipBlanks_25 ?_
        refine mj_dup (pc := 26) rfl dd_Tape_skipBlanks_26 ?_
        refine mj_getI (pc := 27) (b := 2) (k := 2) qf_Tape_19 sh_2 cl_10 rfl (by decide) rfl dd_Tape_skipBlanks_27 ?_
        refine mj_iconst (pc := 30) (v := (1 : Int32)) (by decide) dd_Tape_skipBlanks_30 ?_
        refine mj_iadd (pc := 31) dd_Tape_skipBlanks_31 ?_
        refine mj_putI (pc := 32) (b := 2) (k := 2) qf_Tape_19 sh_2 cl_10 rfl (by decide) (by decide) rfl rfl rfl dd_Tape_skipBlanks_32 (fun M3 _ => ?_)
        refine mj_goto (pc := 35) (tgt := 0) dd_Tape_skipBlanks_35 rfl ?_
        refine mj_L (L' := [(0, .ref 2)]) [0] rfl ?_
        exact ih M3
      · exact mj_vret dd_Tape_skipBlanks_38 rfl rfl
def F_Tape_skipBlanks (N : Nat) (M : mj_M) : Option (mj_M) :=
    F_Tape_skipBlanks_b0 N N M
set_option maxRecDepth 20000 in
theorem T_Tape_skipBlanks {g : mj_G} (N : Nat) : ∀ d, 1 ≤ d → ∀ (M : mj_M), mj_Mt g (mj_qV g) d y_Tape_skipBlanks c_Tape_skipBlanks 1 none [.ref 2] M (F_Tape_skipBlanks N M) := by
  intro d hd M
  obtain ⟨e, rfl⟩ : ∃ e, d = e + 1 := ⟨d - 1, by omega⟩
  have he : 0 ≤ e := by omega
  refine mj_met (by decide +kernel) (Nat.le_of_ble_eq_true rfl) ?_
  unfold F_Tape_skipBlanks
  refine mj_L (L' := [(0, .ref 2)]) [0] rfl ?_
  refine mj_L (L' := [(0, .ref 2)]) [0] rfl ?_
  exact T_Tape_skipBlanks_b0 (g := g) N e he N M
def F_Tape_peek (N : Nat) (M : mj_M) : Option (Int32 × mj_M) :=
    if (M 2 3) = (-1 : Int32) then
     ((F_Tape_skipBlanks N M).bind (fun q2 =>
     if (q2 2 1) ≤ (q2 2 2) then
     (some ((0 : Int32), q2))
     else
     (mj_ck (q2 2 2) 240 (
     some (q2 3 (q2 2 2).toNatClampNeg, q2)))))
     else
     (some ((0 : Int32), M))
set_option maxRecDepth 20000 in
theorem T_Tape_peek {g : mj_G} (N : Nat) : ∀ d, 2 ≤ d → ∀ (M : mj_M), mj_Mt g (mj_qI g) d y_Tape_peek c_Tape_peek 1 (some .int) [.ref 2] M (F_Tape_peek N M) := by
  intro d hd M
  obtain ⟨e, rfl⟩ : ∃ e, d = e + 1 := ⟨d - 1, by omega⟩
  have he : 1 ≤ e := by omega
  refine mj_met (by decide +kernel) (Nat.le_of_ble_eq_true rfl) ?_
  unfold F_Tape_peek
  refine mj_L (L' := [(0, .ref 2)]) [0] rfl ?_
  refine mj_aload_n (pc := 0) (i := 0) rfl dd_Tape_peek_0 ?_
  refine mj_getI (pc := 1) (b := 2) (k := 3) qf_Tape_22 sh_2 cl_10 rfl (by decide) rfl dd_Tape_peek_1 ?_
  refine mj_iconst (pc := 4) (v := (-1 : Int32)) (by decide) dd_Tape_peek_4 ?_
  refine mj_icmp_eq (pc := 5) (tgt := 10) dd_Tape_peek_5 rfl (fun h1 => ?_) (fun h1 => ?_)
  · refine mj_aload_n (pc := 10) (i := 0) rfl dd_Tape_peek_10 ?_
    refine mj_callVV (pc := 11) (idx := 25) (b := 2) (As := []) (st := []) sh_2 cl_10 ev_Tape_skipBlanks ql_Tape_25 rfl (Nat.le_of_ble_eq_true rfl) (T_Tape_skipBlanks (g := g) N e (by omega) M) dd_Tape_peek_11 (fun q2 hq2 => ?_)
    refine mj_aload_n (pc := 14) (i := 0) rfl dd_Tape_peek_14 ?_
    refine mj_getI (pc := 15) (b := 2) (k := 2) qf_Tape_19 sh_2 cl_10 rfl (by decide) rfl dd_Tape_peek_15 ?_
    refine mj_aload_n (pc := 18) (i := 0) rfl dd_Tape_peek_18 ?_
    refine mj_getI (pc := 19) (b := 2) (k := 1) qf_Tape_15 sh_2 cl_10 rfl (by decide) rfl dd_Tape_peek_19 ?_
    refine mj_icmp_ge (pc := 22) (tgt := 37) dd_Tape_peek_22 rfl (fun h3 => ?_) (fun h3 => ?_)
    · refine mj_iconst (pc := 37) (v := (0 : Int32)) (by decide) dd_Tape_peek_37 ?_
      exact mj_iret dd_Tape_peek_38 rfl rfl
    · refine mj_aload_n (pc := 25) (i := 0) rfl dd_Tape_peek_25 ?_
      refine mj_getR (pc := 26) (b := 2) (k := 0) qf_Tape_11 sh_2 cl_10 rfl (by decide) (r := 3) rfl dd_Tape_peek_26 ?_
      refine mj_aload_n (pc := 29) (i := 0) rfl dd_Tape_peek_29 ?_
      refine mj_getI (pc := 30) (b := 2) (k := 2) qf_Tape_19 sh_2 cl_10 rfl (by decide) rfl dd_Tape_peek_30 ?_
      refine mj_iald (pc := 33) sh_3 dd_Tape_peek_33 ?_
      refine mj_goto (pc := 34) (tgt := 38) dd_Tape_peek_34 rfl ?_
      exact mj_iret dd_Tape_peek_38 rfl rfl
  · refine mj_iconst (pc := 8) (v := (0 : Int32)) (by decide) dd_Tape_peek_8 ?_
    exact mj_iret dd_Tape_peek_9 rfl rfl
def F_Tape_fail (x1 : Int32) (M : mj_M) : Option (mj_M) :=
    if (M 2 3) = (-1 : Int32) then
     (mj_lt (mj_u M 2 3 x1) (fun M2 =>
     some M2))
     else
     (some M)
set_option maxRecDepth 20000 in
theorem T_Tape_fail {g : mj_G} : ∀ d, 1 ≤ d → ∀ (x1 : Int32) (M : mj_M), mj_Mt g (mj_qV g) d y_Tape_fail c_Tape_fail 2 none [.ref 2, .int x1] M (F_Tape_fail x1 M) := by
  intro d hd x1 M
  obtain ⟨e, rfl⟩ : ∃ e, d = e + 1 := ⟨d - 1, by omega⟩
  have he : 0 ≤ e := by omega
  refine mj_met (by decide +kernel) (Nat.le_of_ble_eq_true rfl) ?_
  unfold F_Tape_fail
  refine mj_L (L' := [(0, .ref 2), (1, .int x1)]) [0, 1] rfl ?_
  refine mj_aload_n (pc := 0) (i := 0) rfl dd_Tape_fail_0 ?_
  refine mj_getI (pc := 1) (b := 2) (k := 3) qf_Tape_22 sh_2 cl_10 rfl (by decide) rfl dd_Tape_fail_1 ?_
  refine mj_iconst (pc := 4) (v := (-1 : Int32)) (by decide) dd_Tape_fail_4 ?_
  refine mj_icmp_ne (pc := 5) (tgt := 13) dd_Tape_fail_5 rfl (fun h1 => ?_) (fun h1 => ?_)
  · refine mj_aload_n (pc := 8) (i := 0) rfl dd_Tape_fail_8 ?_
    refine mj_iload_n (pc := 9) (i := 1) rfl dd_Tape_fail_9 ?_
    refine mj_putI (pc := 10) (b := 2) (k := 3) qf_Tape_22 sh_2 cl_10 rfl (by decide) (by decide) rfl rfl rfl dd_Tape_fail_10 (fun M2 _ => ?_)
    exact mj_vret dd_Tape_fail_13 rfl rfl
  · exact mj_vret dd_Tape_fail_13 rfl rfl
def F_Tape_demand (N : Nat) (x1 : Int32) (M : mj_M) : Option (mj_M) :=
    (F_Tape_peek N M).bind (fun q1 =>
     if q1.1 = x1 then
     (mj_lt (mj_u q1.2 2 2 ((q1.2 2 2) + (1 : Int32))) (fun M4 =>
     some M4))
     else
     ((F_Tape_fail (q1.2 2 2) q1.2).bind (fun q3 =>
     some q3)))
set_option maxRecDepth 20000 in
theorem T_Tape_demand {g : mj_G} (N : Nat) : ∀ d, 3 ≤ d → ∀ (x1 : Int32) (M : mj_M), mj_Mt g (mj_qV g) d y_Tape_demand c_Tape_demand 2 none [.ref 2, .int x1] M (F_Tape_demand N x1 M) := by
  intro d hd x1 M
  obtain ⟨e, rfl⟩ : ∃ e, d = e + 1 := ⟨d - 1, by omega⟩
  have he : 2 ≤ e := by omega
  refine mj_met (by decide +kernel) (Nat.le_of_ble_eq_true rfl) ?_
  unfold F_Tape_demand
  refine mj_L (L' := [(0, .ref 2), (1, .int x1)]) [0, 1] rfl ?_
  refine mj_aload_n (pc := 0) (i := 0) rfl dd_Tape_demand_0 ?_
  refine mj_callVI (pc := 1) (idx := 28) (b := 2) (As := []) (st := []) sh_2 cl_10 ev_Tape_peek ql_Tape_28 rfl (Nat.le_of_ble_eq_true rfl) (T_Tape_peek (g := g) N e (by omega) M) dd_Tape_demand_1 (fun q1 hq1 => ?_)
  refine mj_iload_n (pc := 4) (i := 1) rfl dd_Tape_demand_4 ?_
  refine mj_icmp_ne (pc := 5) (tgt := 21) dd_Tape_demand_5 rfl (fun h2 => ?_) (fun h2 => ?_)
  · refine mj_aload_n (pc := 8) (i := 0) rfl dd_Tape_demand_8 ?_
    refine mj_dup (pc := 9) rfl dd_Tape_demand_9 ?_
    refine mj_getI (pc := 10) (b := 2) (k := 2) qf_Tape_19 sh_2 cl_10 rfl (by decide) rfl dd_Tape_demand_10 ?_
    refine mj_iconst (pc := 13) (v := (1 : Int32)) (by decide) dd_Tape_demand_13 ?_
    refine mj_iadd (pc := 14) dd_Tape_demand_14 ?_
    refine mj_putI (pc := 15) (b := 2) (k := 2) qf_Tape_19 sh_2 cl_10 rfl (by decide) (by decide) rfl rfl rfl dd_Tape_demand_15 (fun M4 _ => ?_)
    refine mj_goto (pc := 18) (tgt := 29) dd_Tape_demand_18 rfl ?_
    exact mj_vret dd_Tape_demand_29 rfl rfl
  · refine mj_aload_n (pc := 21) (i := 0) rfl dd_Tape_demand_21 ?_
    refine mj_aload_n (pc := 22) (i := 0) rfl dd_Tape_demand_22 ?_
    refine mj_getI (pc := 23) (b := 2) (k := 2) qf_Tape_19 sh_2 cl_10 rfl (by decide) rfl dd_Tape_demand_23 ?_
    refine mj_callVV (pc := 26) (idx := 32) (b := 2) (As := [.int (q1.2 2 2)]) (st := []) sh_2 cl_10 ev_Tape_fail ql_Tape_32 rfl (Nat.le_of_ble_eq_true rfl) (T_Tape_fail (g := g) e (by omega) (q1.2 2 2) q1.2) dd_Tape_demand_26 (fun q3 hq3 => ?_)
    exact mj_vret dd_Tape_demand_29 rfl rfl
def F_Tape_atDigit (M : mj_M) : Option (Int32 × mj_M) :=
    if (M 2 1) ≤ (M 2 2) then
     (some ((0 : Int32), M))
     else
     (mj_ck (M 2 2) 240 (
     if (M 3 (M 2 2).toNatClampNeg) < (48 : Int32) then
     (some ((0 : Int32), M))
     else
     (mj_ck (M 2 2) 240 (
     if (57 : Int32) < (M 3 (M 2 2).toNatClampNeg) then
     (some ((0 : Int32), M))
     else
     (some ((1 : Int32), M))))))
set_option maxRecDepth 20000 in
theorem T_Tape_atDigit {g : mj_G} : ∀ d, 1 ≤ d → ∀ (M : mj_M), mj_Mt g (mj_qI g) d y_Tape_atDigit c_Tape_atDigit 1 (some .boolean) [.ref 2] M (F_Tape_atDigit M) := by
  intro d hd M
  obtain ⟨e, rfl⟩ : ∃ e, d = e + 1 := ⟨d - 1, by omega⟩
  have he : 0 ≤ e := by omega
  refine mj_met (by decide +kernel) (Nat.le_of_ble_eq_true rfl) ?_
  unfold F_Tape_atDigit
  refine mj_L (L' := [(0, .ref 2)]) [0] rfl ?_
  refine mj_aload_n (pc := 0) (i := 0) rfl dd_Tape_atDigit_0 ?_
  refine mj_getI (pc := 1) (b := 2) (k := 2) qf_Tape_19 sh_2 cl_10 rfl (by decide) rfl dd_Tape_atDigit_1 ?_
  refine mj_aload_n (pc := 4) (i := 0) rfl dd_Tape_atDigit_4 ?_
  refine mj_getI (pc := 5) (b := 2) (k := 1) qf_Tape_15 sh_2 cl_10 rfl (by decide) rfl dd_Tape_atDigit_5 ?_
  refine mj_icmp_ge (pc := 8) (tgt := 43) dd_Tape_atDigit_8 rfl (fun h1 => ?_) (fun h1 => ?_)
  · refine mj_iconst (pc := 43) (v := (0 : Int32)) (by decide) dd_Tape_atDigit_43 ?_
    exact mj_zret (by decide) dd_Tape_atDigit_44 rfl rfl
  · refine mj_aload_n (pc := 11) (i := 0) rfl dd_Tape_atDigit_11 ?_
    refine mj_getR (pc := 12) (b := 2) (k := 0) qf_Tape_11 sh_2 cl_10 rfl (by decide) (r := 3) rfl dd_Tape_atDigit_12 ?_
    refine mj_aload_n (pc := 15) (i := 0) rfl dd_Tape_atDigit_15 ?_
    refine mj_getI (pc := 16) (b := 2) (k := 2) qf_Tape_19 sh_2 cl_10 rfl (by decide) rfl dd_Tape_atDigit_16 ?_
    refine mj_iald (pc := 19) sh_3 dd_Tape_atDigit_19 ?_
    refine mj_bipush (pc := 20) (v := (48 : Int32)) (by decide) dd_Tape_atDigit_20 ?_
    refine mj_icmp_lt (pc := 22) (tgt := 43) dd_Tape_atDigit_22 rfl (fun h2 => ?_) (fun h2 => ?_)
    · refine mj_iconst (pc := 43) (v := (0 : Int32)) (by decide) dd_Tape_atDigit_43 ?_
      exact mj_zret (by decide) dd_Tape_atDigit_44 rfl rfl
    · refine mj_aload_n (pc := 25) (i := 0) rfl dd_Tape_atDigit_25 ?_
      refine mj_getR (pc := 26) (b := 2) (k := 0) qf_Tape_11 sh_2 cl_10 rfl (by decide) (r := 3) rfl dd_Tape_atDigit_26 ?_
      refine mj_aload_n (pc := 29) (i := 0) rfl dd_Tape_atDigit_29 ?_
      refine mj_getI (pc := 30) (b := 2) (k := 2) qf_Tape_19 sh_2 cl_10 rfl (by decide) rfl dd_Tape_atDigit_30 ?_
      refine mj_iald (pc := 33) sh_3 dd_Tape_atDigit_33 ?_
      refine mj_bipush (pc := 34) (v := (57 : Int32)) (by decide) dd_Tape_atDigit_34 ?_
      refine mj_icmp_gt (pc := 36) (tgt := 43) dd_Tape_atDigit_36 rfl (fun h3 => ?_) (fun h3 => ?_)
      · refine mj_iconst (pc := 43) (v := (0 : Int32)) (by decide) dd_Tape_atDigit_43 ?_
        exact mj_zret (by decide) dd_Tape_atDigit_44 rfl rfl
      · refine mj_iconst (pc := 39) (v := (1 : Int32)) (by decide) dd_Tape_atDigit_39 ?_
        refine mj_goto (pc := 40) (tgt := 44) dd_Tape_atDigit_40 rfl ?_
        exact mj_zret (by decide) dd_Tape_atDigit_44 rfl rfl
def F_Tape_number_b71 (N : Nat) (x4 : Int32) (M : mj_M) : Option (Int32 × mj_M) :=
    (F_Tape_fail (M 2 2) M).bind (fun q12 =>
     some (x4, q12))
set_option maxRecDepth 20000 in
theorem T_Tape_number_b71 {g : mj_G} (N : Nat) (e : Nat) (he : 1 ≤ e) (x4 : Int32) (M : mj_M) : mj_X g (mj_qI g) "WinterTellers$Tape" c_Tape_number 6 (some .int) e 71 [(0, .ref 2), (4, .int x4)] [] M (F_Tape_number_b71 N x4 M) := by
  unfold F_Tape_number_b71
  refine mj_aload_n (pc := 71) (i := 0) rfl dd_Tape_number_71 ?_
  refine mj_aload_n (pc := 72) (i := 0) rfl dd_Tape_number_72 ?_
  refine mj_getI (pc := 73) (b := 2) (k := 2) qf_Tape_19 sh_2 cl_10 rfl (by decide) rfl dd_Tape_number_73 ?_
  refine mj_callVV (pc := 76) (idx := 32) (b := 2) (As := [.int (M 2 2)]) (st := []) sh_2 cl_10 ev_Tape_fail ql_Tape_32 rfl (Nat.le_of_ble_eq_true rfl) (T_Tape_fail (g := g) e (by omega) (M 2 2) M) dd_Tape_number_76 (fun q12 hq12 => ?_)
  refine mj_goto (pc := 79) (tgt := 104) dd_Tape_number_79 rfl ?_
  refine mj_iload (pc := 104) (i := 4) rfl dd_Tape_number_104 ?_
  exact mj_iret dd_Tape_number_106 rfl rfl
def F_Tape_number_b94 (N : Nat) (x4 : Int32) (M : mj_M) : Option (Int32 × mj_M) :=
    (F_Tape_fail ((M 2 2) - (1 : Int32)) M).bind (fun q13 =>
     some (x4, q13))
set_option maxRecDepth 20000 in
theorem T_Tape_number_b94 {g : mj_G} (N : Nat) (e : Nat) (he : 1 ≤ e) (x4 : Int32) (M : mj_M) : mj_X g (mj_qI g) "WinterTellers$Tape" c_Tape_number 6 (some .int) e 94 [(0, .ref 2), (4, .int x4)] [] M (F_Tape_number_b94 N x4 M) := by
  unfold F_Tape_number_b94
  refine mj_aload_n (pc := 94) (i := 0) rfl dd_Tape_number_94 ?_
  refine mj_aload_n (pc := 95) (i := 0) rfl dd_Tape_number_95 ?_
  refine mj_getI (pc := 96) (b := 2) (k := 2) qf_Tape_19 sh_2 cl_10 rfl (by decide) rfl dd_Tape_number_96 ?_
  refine mj_iconst (pc := 99) (v := (1 : Int32)) (by decide) dd_Tape_number_99 ?_
  refine mj_isub (pc := 100) dd_Tape_number_100 ?_
  refine mj_callVV (pc := 101) (idx := 32) (b := 2) (As := [.int ((M 2 2) - (1 : Int32))]) (st := []) sh_2 cl_10 ev_Tape_fail ql_Tape_32 rfl (Nat.le_of_ble_eq_true rfl) (T_Tape_fail (g := g) e (by omega) ((M 2 2) - (1 : Int32)) M) dd_Tape_number_101 (fun q13 hq13 => ?_)
  refine mj_iload (pc := 104) (i := 4) rfl dd_Tape_number_104 ?_
  exact mj_iret dd_Tape_number_106 rfl rfl
def F_Tape_number_b59 (N : Nat) (x2 : Int32) (x3 : Int32) (x4 : Int32) (x5 : Int32) (M : mj_M) : Option (Int32 × mj_M) :=
    if x5 = (0) then
     (F_Tape_number_b71 N x4 M)
     else
     ((F_Tape_atDigit M).bind (fun q8 =>
     if q8.1 = (0) then
     (if x4 < x2 then
     (F_Tape_number_b94 N x4 q8.2)
     else
     (if x4 ≤ x3 then
     (some (x4, q8.2))
     else
     (F_Tape_number_b94 N x4 q8.2)))
     else
     (F_Tape_number_b71 N x4 q8.2)))
set_option maxRecDepth 20000 in
theorem T_Tape_number_b59 {g : mj_G} (N : Nat) (e : Nat) (he : 1 ≤ e) (x2 : Int32) (x3 : Int32) (x4 : Int32) (x5 : Int32) (M : mj_M) : mj_X g (mj_qI g) "WinterTellers$Tape" c_Tape_number 6 (some .int) e 59 [(0, .ref 2), (2, .int x2), (3, .int x3), (4, .int x4), (5, .int x5)] [] M (F_Tape_number_b59 N x2 x3 x4 x5 M) := by
  unfold F_Tape_number_b59
  refine mj_iload (pc := 59) (i := 5) rfl dd_Tape_number_59 ?_
  refine mj_if_eq (pc := 61) (tgt := 71) dd_Tape_number_61 rfl (fun h7 => ?_) (fun h7 => ?_)
  · refine mj_L (L' := [(0, .ref 2), (4, .int x4)]) [0, 3] rfl ?_
    exact T_Tape_number_b71 (g := g) N e he x4 M
  · refine mj_aload_n (pc := 64) (i := 0) rfl dd_Tape_number_64 ?_
    refine mj_callVI (pc := 65) (idx := 36) (b := 2) (As := []) (st := []) sh_2 cl_10 ev_Tape_atDigit ql_Tape_36 rfl (Nat.le_of_ble_eq_true rfl) (T_Tape_atDigit (g := g) e (by omega) M) dd_Tape_number_65 (fun q8 hq8 => ?_)
    refine mj_if_eq (pc := 68) (tgt := 82) dd_Tape_number_68 rfl (fun h9 => ?_) (fun h9 => ?_)
    · refine mj_iload (pc := 82) (i := 4) rfl dd_Tape_number_82 ?_
      refine mj_iload_n (pc := 84) (i := 2) rfl dd_Tape_number_84 ?_
      refine mj_icmp_lt (pc := 85) (tgt := 94) dd_Tape_number_85 rfl (fun h10 => ?_) (fun h10 => ?_)
      · refine mj_L (L' := [(0, .ref 2), (4, .int x4)]) [0, 3] rfl ?_
        exact T_Tape_number_b94 (g := g) N e he x4 q8.2
      · refine mj_iload (pc := 88) (i := 4) rfl dd_Tape_number_88 ?_
        refine mj_iload_n (pc := 90) (i := 3) rfl dd_Tape_number_90 ?_
        refine mj_icmp_le (pc := 91) (tgt := 104) dd_Tape_number_91 rfl (fun h11 => ?_) (fun h11 => ?_)
        · refine mj_iload (pc := 104) (i := 4) rfl dd_Tape_number_104 ?_
          exact mj_iret dd_Tape_number_106 rfl rfl
        · refine mj_L (L' := [(0, .ref 2), (4, .int x4)]) [0, 3] rfl ?_
          exact T_Tape_number_b94 (g := g) N e he x4 q8.2
    · refine mj_L (L' := [(0, .ref 2), (4, .int x4)]) [0, 3] rfl ?_
      exact T_Tape_number_b71 (g := g) N e he x4 q8.2
def F_Tape_number_b10 (N : Nat) : Nat → Int32 → Int32 → Int32 → Int32 → Int32 → mj_M → Option (Int32 × mj_M)
  | 0, _, _, _, _, _, _ => none
  | n + 1, x1, x2, x3, x4, x5, M =>
    if x1 ≤ x5 then
     (F_Tape_number_b59 N x2 x3 x4 x5 M)
     else
     ((F_Tape_atDigit M).bind (fun q3 =>
     if q3.1 = (0) then
     (F_Tape_number_b59 N x2 x3 x4 x5 q3.2)
     else
     (mj_ck (q3.2 2 2) 240 (
     mj_lt (((x4 * (10 : Int32)) + (q3.2 3 (q3.2 2 2).toNatClampNeg)) - (48 : Int32)) (fun v5 =>
     mj_lt (mj_u q3.2 2 2 ((q3.2 2 2) + (1 : Int32))) (fun M6 =>
     F_Tape_number_b10 N n x1 x2 x3 v5 (x5 + (1 : Int32)) M6))))))
set_option maxRecDepth 20000 in
theorem T_Tape_number_b10 {g : mj_G} (N : Nat) (e : Nat) (he : 1 ≤ e) : ∀ (n : Nat) (x1 : Int32) (x2 : Int32) (x3 : Int32) (x4 : Int32) (x5 : Int32) (M : mj_M), mj_X g (mj_qI g) "WinterTellers$Tape" c_Tape_number 6 (some .int) e 10 [(0, .ref 2), (1, .int x1), (2, .int x2), (3, .int x3), (4, .int x4), (5, .int x5)] [] M (F_Tape_number_b10 N n x1 x2 x3 x4 x5 M) := by
  intro n
  induction n with
  | zero => intro x1 x2 x3 x4 x5 M; exact mj_none
  | succ n ih =>
    intro x1 x2 x3 x4 x5 M
    rw [F_Tape_number_b10]
    refine mj_iload (pc := 10) (i := 5) rfl dd_Tape_number_10 ?_
    refine mj_iload_n (pc := 12) (i := 1) rfl dd_Tape_number_12 ?_
    refine mj_icmp_ge (pc := 13) (tgt := 59) dd_Tape_number_13 rfl (fun h2 => ?_) (fun h2 => ?_)
    · refine mj_L (L' := [(0, .ref 2), (2, .int x2), (3, .int x3), (4, .int x4), (5, .int x5)]) [0, 2, 3, 4, 5] rfl ?_
      exact T_Tape_number_b59 (g := g) N e he x2 x3 x4 x5 M
    · refine mj_aload_n (pc := 16) (i := 0) rfl dd_Tape_number_16 ?_
      refine mj_callVI (pc := 17) (idx := 36) (b := 2) (As := []) (st := []) sh_2 cl_10 ev_Tape_atDigit ql_Tape_36 rfl (Nat.le_of_ble_eq_true rfl) (T_Tape_atDigit (g := g) e (by omega) M) dd_Tape_number_17 (fun q3 hq3 => ?_)
      refine mj_if_eq (pc := 20) (tgt := 59) dd_Tape_number_20 rfl (fun h4 => ?_) (fun h4 => ?_)
      · refine mj_L (L' := [(0, .ref 2), (2, .int x2), (3, .int x3), (4, .int x4), (5, .int x5)]) [0, 2, 3, 4, 5] rfl ?_
        exact T_Tape_number_b59 (g := g) N e he x2 x3 x4 x5 q3.2
      · refine mj_iload (pc := 23) (i := 4) rfl dd_Tape_number_23 ?_
        refine mj_bipush (pc := 25) (v := (10 : Int32)) (by decide) dd_Tape_number_25 ?_
        refine mj_imul (pc := 27) dd_Tape_number_27 ?_
        refine mj_aload_n (pc := 28) (i := 0) rfl dd_Tape_number_28 ?_
        refine mj_getR (pc := 29) (b := 2) (k := 0) qf_Tape_11 sh_2 cl_10 rfl (by decide) (r := 3) rfl dd_Tape_number_29 ?_
        refine mj_aload_n (pc := 32) (i := 0) rfl dd_Tape_number_32 ?_
        refine mj_getI (pc := 33) (b := 2) (k := 2) qf_Tape_19 sh_2 cl_10 rfl (by decide) rfl dd_Tape_number_33 ?_
        refine mj_iald (pc := 36) sh_3 dd_Tape_number_36 ?_
        refine mj_iadd (pc := 37) dd_Tape_number_37 ?_
        refine mj_bipush (pc := 38) (v := (48 : Int32)) (by decide) dd_Tape_number_38 ?_
        refine mj_isub (pc := 40) dd_Tape_number_40 ?_
        refine mj_istoreL (pc := 41) (by decide) dd_Tape_number_41 (fun v5 _ => ?_)
        refine mj_L (L' := [(4, .int v5), (0, .ref 2), (1, .int x1), (2, .int x2), (3, .int x3), (5, .int x5)]) [0, 1, 2, 3, 4, 5] rfl ?_
        refine mj_aload_n (pc := 43) (i := 0) rfl dd_Tape_number_43 ?_
        refine mj_dup (pc := 44) rfl dd_Tape_number_44 ?_
        refine mj_getI (pc := 45) (b := 2) (k := 2) qf_Tape_19 sh_2 cl_10 rfl (by decide) rfl dd_Tape_number_45 ?_
        refine mj_iconst (pc := 48) (v := (1 : Int32)) (by decide) dd_Tape_number_48 ?_
        refine mj_iadd (pc := 49) dd_Tape_number_49 ?_
        refine mj_putI (pc := 50) (b := 2) (k := 2) qf_Tape_19 sh_2 cl_10 rfl (by decide) (by decide) rfl rfl rfl dd_Tape_number_50 (fun M6 _ => ?_)
        refine mj_iinc (pc := 53) (i := 5) (z := (1 : Int32)) rfl (by decide) (by decide) dd_Tape_number_53 ?_
        refine mj_L (L' := [(5, .int (x5 + (1 : Int32))), (4, .int v5), (0, .ref 2), (1, .int x1), (2, .int x2), (3, .int x3)]) [0, 1, 2, 3, 4, 5] rfl ?_
        refine mj_goto (pc := 56) (tgt := 10) dd_Tape_number_56 rfl ?_
        refine mj_L (L' := [(0, .ref 2), (1, .int x1), (2, .int x2), (3, .int x3), (4, .int v5), (5, .int (x5 + (1 : Int32)))]) [2, 3, 4, 5, 1, 0] rfl ?_
        exact ih x1 x2 x3 v5 (x5 + (1 : Int32)) M6
def F_Tape_number (N : Nat) (x1 : Int32) (x2 : Int32) (x3 : Int32) (M : mj_M) : Option (Int32 × mj_M) :=
    (F_Tape_skipBlanks N M).bind (fun q1 =>
     F_Tape_number_b10 N N x1 x2 x3 (0 : Int32) (0 : Int32) q1)
set_option maxRecDepth 20000 in
theorem T_Tape_number {g : mj_G} (N : Nat) : ∀ d, 2 ≤ d → ∀ (x1 : Int32) (x2 : Int32) (x3 : Int32) (M : mj_M), mj_Mt g (mj_qI g) d y_Tape_number c_Tape_number 6 (some .int) [.ref 2, .int x1, .int x2, .int x3] M (F_Tape_number N x1 x2 x3 M) := by
  intro d hd x1 x2 x3 M
  obtain ⟨e, rfl⟩ : ∃ e, d = e + 1 := ⟨d - 1, by omega⟩
  have he : 1 ≤ e := by omega
  refine mj_met (by decide +kernel) (Nat.le_of_ble_eq_true rfl) ?_
  unfold F_Tape_number
  refine mj_L (L' := [(0, .ref 2), (1, .int x1), (2, .int x2), (3, .int x3)]) [0, 1, 2, 3] rfl ?_
  refine mj_iconst (pc := 0) (v := (0 : Int32)) (by decide) dd_Tape_number_0 ?_
  refine mj_istore (pc := 1) (by decide) dd_Tape_number_1 ?_
  refine mj_L (L' := [(4, .int (0 : Int32)), (0, .ref 2), (1, .int x1), (2, .int x2), (3, .int x3)]) [0, 1, 2, 3, 4] rfl ?_
  refine mj_iconst (pc := 3) (v := (0 : Int32)) (by decide) dd_Tape_number_3 ?_
  refine mj_istore (pc := 4) (by decide) dd_Tape_number_4 ?_
  refine mj_L (L' := [(5, .int (0 : Int32)), (4, .int (0 : Int32)), (0, .ref 2), (1, .int x1), (2, .int x2), (3, .int x3)]) [0, 1, 2, 3, 4, 5] rfl ?_
  refine mj_aload_n (pc := 6) (i := 0) rfl dd_Tape_number_6 ?_
  refine mj_callVV (pc := 7) (idx := 25) (b := 2) (As := []) (st := []) sh_2 cl_10 ev_Tape_skipBlanks ql_Tape_25 rfl (Nat.le_of_ble_eq_true rfl) (T_Tape_skipBlanks (g := g) N e (by omega) M) dd_Tape_number_7 (fun q1 hq1 => ?_)
  refine mj_L (L' := [(0, .ref 2), (1, .int x1), (2, .int x2), (3, .int x3), (4, .int (0 : Int32)), (5, .int (0 : Int32))]) [2, 3, 4, 5, 1, 0] rfl ?_
  exact T_Tape_number_b10 (g := g) N e he N x1 x2 x3 (0 : Int32) (0 : Int32) q1
