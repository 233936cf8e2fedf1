/-! ===== functions and their proofs ===== -/
def F_M_isRest_b3 (N : Nat) : Nat → Int32 → Int32 → Int32 → Int32 → mj_M → Option (Int32 × mj_M)
  | 0, _, _, _, _, _ => none
  | n + 1, x1, x2, x3, x4, M =>
    if (M 48 26) ≤ x4 then
     (some ((1 : Int32), M))
     else
     ((F_M_gameOf N x1 x4 x3 (0 : Int32) M).bind (fun q2 =>
     (F_M_gameOf N x1 x2 x3 (0 : Int32) q2.2).bind (fun q3 =>
     if q3.1 < q2.1 then
     (some ((0 : Int32), q3.2))
     else
     ((F_M_gameOf N x1 x2 x4 (1 : Int32) q3.2).bind (fun q5 =>
     (F_M_gameOf N x1 x2 x3 (1 : Int32) q5.2).bind (fun q6 =>
     if q5.1 ≤ q6.1 then
     (F_M_isRest_b3 N n x1 x2 x3 (x4 + (1 : Int32)) q6.2)
     else
     (some ((0 : Int32), q6.2))))))))
set_option maxRecDepth 20000 in
theorem T_M_isRest_b3 {g : mj_G} (N : Nat) (e : Nat) (he : 7 ≤ e) : ∀ (n : Nat) (x1 : Int32) (x2 : Int32) (x3 : Int32) (x4 : Int32) (M : mj_M), mj_X g (mj_qI g) "WinterTellersModel" c_M_isRest 5 (some .boolean) e 3 [(0, .ref 48), (1, .int x1), (2, .int x2), (3, .int x3), (4, .int x4)] [] M (F_M_isRest_b3 N n x1 x2 x3 x4 M) := by
  intro n
  induction n with
  | zero => intro x1 x2 x3 x4 M; exact mj_none
  | succ n ih =>
    intro x1 x2 x3 x4 M
    rw [F_M_isRest_b3]
    refine mj_iload (pc := 3) (i := 4) rfl dd_M_isRest_3 ?_
    refine mj_aload_n (pc := 5) (i := 0) rfl dd_M_isRest_5 ?_
    refine mj_getI (pc := 6) (b := 48) (k := 26) qf_M_245 sh_48 cl_12 rfl (by decide) rfl dd_M_isRest_6 ?_
    refine mj_icmp_ge (pc := 9) (tgt := 60) dd_M_isRest_9 rfl (fun h1 => ?_) (fun h1 => ?_)
    · refine mj_iconst (pc := 60) (v := (1 : Int32)) (by decide) dd_M_isRest_60 ?_
      exact mj_zret (by decide) dd_M_isRest_61 rfl rfl
    · refine mj_aload_n (pc := 12) (i := 0) rfl dd_M_isRest_12 ?_
      refine mj_iload_n (pc := 13) (i := 1) rfl dd_M_isRest_13 ?_
      refine mj_iload (pc := 14) (i := 4) rfl dd_M_isRest_14 ?_
      refine mj_iload_n (pc := 16) (i := 3) rfl dd_M_isRest_16 ?_
      refine mj_iconst (pc := 17) (v := (0 : Int32)) (by decide) dd_M_isRest_17 ?_
      refine mj_callVI (pc := 18) (idx := 384) (b := 48) (As := [.int x1, .int x4, .int x3, .int (0 : Int32)]) (st := []) sh_48 cl_12 ev_M_gameOf ql_M_384 rfl (Nat.le_of_ble_eq_true rfl) (T_M_gameOf (g := g) N e (by omega) x1 x4 x3 (0 : Int32) M) dd_M_isRest_18 (fun q2 hq2 => ?_)
      refine mj_aload_n (pc := 21) (i := 0) rfl dd_M_isRest_21 ?_
      refine mj_iload_n (pc := 22) (i := 1) rfl dd_M_isRest_22 ?_
      refine mj_iload_n (pc := 23) (i := 2) rfl dd_M_isRest_23 ?_
      refine mj_iload_n (pc := 24) (i := 3) rfl dd_M_isRest_24 ?_
      refine mj_iconst (pc := 25) (v := (0 : Int32)) (by decide) dd_M_isRest_25 ?_
      refine mj_callVI (pc := 26) (idx := 384) (b := 48) (As := [.int x1, .int x2, .int x3, .int (0 : Int32)]) (st := [.int q2.1]) sh_48 cl_12 ev_M_gameOf ql_M_384 rfl (Nat.le_of_ble_eq_true rfl) (T_M_gameOf (g := g) N e (by omega) x1 x2 x3 (0 : Int32) q2.2) dd_M_isRest_26 (fun q3 hq3 => ?_)
      refine mj_icmp_gt (pc := 29) (tgt := 52) dd_M_isRest_29 rfl (fun h4 => ?_) (fun h4 => ?_)
      · refine mj_iconst (pc := 52) (v := (0 : Int32)) (by decide) dd_M_isRest_52 ?_
        exact mj_zret (by decide) dd_M_isRest_53 rfl rfl
      · refine mj_aload_n (pc := 32) (i := 0) rfl dd_M_isRest_32 ?_
        refine mj_iload_n (pc := 33) (i := 1) rfl dd_M_isRest_33 ?_
        refine mj_iload_n (pc := 34) (i := 2) rfl dd_M_isRest_34 ?_
        refine mj_iload (pc := 35) (i := 4) rfl dd_M_isRest_35 ?_
        refine mj_iconst (pc := 37) (v := (1 : Int32)) (by decide) dd_M_isRest_37 ?_
        refine mj_callVI (pc := 38) (idx := 384) (b := 48) (As := [.int x1, .int x2, .int x4, .int (1 : Int32)]) (st := []) sh_48 cl_12 ev_M_gameOf ql_M_384 rfl (Nat.le_of_ble_eq_true rfl) (T_M_gameOf (g := g) N e (by omega) x1 x2 x4 (1 : Int32) q3.2) dd_M_isRest_38 (fun q5 hq5 => ?_)
        refine mj_aload_n (pc := 41) (i := 0) rfl dd_M_isRest_41 ?_
        refine mj_iload_n (pc := 42) (i := 1) rfl dd_M_isRest_42 ?_
        refine mj_iload_n (pc := 43) (i := 2) rfl dd_M_isRest_43 ?_
        refine mj_iload_n (pc := 44) (i := 3) rfl dd_M_isRest_44 ?_
        refine mj_iconst (pc := 45) (v := (1 : Int32)) (by decide) dd_M_isRest_45 ?_
        refine mj_callVI (pc := 46) (idx := 384) (b := 48) (As := [.int x1, .int x2, .int x3, .int (1 : Int32)]) (st := [.int q5.1]) sh_48 cl_12 ev_M_gameOf ql_M_384 rfl (Nat.le_of_ble_eq_true rfl) (T_M_gameOf (g := g) N e (by omega) x1 x2 x3 (1 : Int32) q5.2) dd_M_isRest_46 (fun q6 hq6 => ?_)
        refine mj_icmp_le (pc := 49) (tgt := 54) dd_M_isRest_49 rfl (fun h7 => ?_) (fun h7 => ?_)
        · refine mj_iinc (pc := 54) (i := 4) (z := (1 : Int32)) rfl (by decide) (by decide) dd_M_isRest_54 ?_
          refine mj_L (L' := [(4, .int (x4 + (1 : Int32))), (0, .ref 48), (1, .int x1), (2, .int x2), (3, .int x3)]) [0, 1, 2, 3, 4] rfl ?_
          refine mj_goto (pc := 57) (tgt := 3) dd_M_isRest_57 rfl ?_
          refine mj_L (L' := [(0, .ref 48), (1, .int x1), (2, .int x2), (3, .int x3), (4, .int (x4 + (1 : Int32)))]) [1, 2, 3, 4, 0] rfl ?_
          exact ih x1 x2 x3 (x4 + (1 : Int32)) q6.2
        · refine mj_iconst (pc := 52) (v := (0 : Int32)) (by decide) dd_M_isRest_52 ?_
          exact mj_zret (by decide) dd_M_isRest_53 rfl rfl
def F_M_isRest (N : Nat) (x1 : Int32) (x2 : Int32) (x3 : Int32) (M : mj_M) : Option (Int32 × mj_M) :=
    F_M_isRest_b3 N N x1 x2 x3 (0 : Int32) M
set_option maxRecDepth 20000 in
theorem T_M_isRest {g : mj_G} (N : Nat) : ∀ d, 8 ≤ d → ∀ (x1 : Int32) (x2 : Int32) (x3 : Int32) (M : mj_M), mj_Mt g (mj_qI g) d y_M_isRest c_M_isRest 5 (some .boolean) [.ref 48, .int x1, .int x2, .int x3] M (F_M_isRest N x1 x2 x3 M) := by
  intro d hd x1 x2 x3 M
  obtain ⟨e, rfl⟩ : ∃ e, d = e + 1 := ⟨d - 1, by omega⟩
  have he : 7 ≤ e := by omega
  refine mj_met (by decide +kernel) (Nat.le_of_ble_eq_true rfl) ?_
  unfold F_M_isRest
  refine mj_L (L' := [(0, .ref 48), (1, .int x1), (2, .int x2), (3, .int x3)]) [0, 1, 2, 3] rfl ?_
  refine mj_iconst (pc := 0) (v := (0 : Int32)) (by decide) dd_M_isRest_0 ?_
  refine mj_istore (pc := 1) (by decide) dd_M_isRest_1 ?_
  refine mj_L (L' := [(4, .int (0 : Int32)), (0, .ref 48), (1, .int x1), (2, .int x2), (3, .int x3)]) [0, 1, 2, 3, 4] rfl ?_
  refine mj_L (L' := [(0, .ref 48), (1, .int x1), (2, .int x2), (3, .int x3), (4, .int (0 : Int32))]) [1, 2, 3, 4, 0] rfl ?_
  exact T_M_isRest_b3 (g := g) N e he N x1 x2 x3 (0 : Int32) M
def F_M_rests_b32 (N : Nat) (k20 : Int32 → Int32 → Int32 → Int32 → mj_M → Option (Int32 × mj_M)) : Nat → Int32 → Int32 → Int32 → Int32 → Int32 → mj_M → Option (Int32 × mj_M)
  | 0, _, _, _, _, _, _ => none
  | n + 1, x1, x2, x3, x4, x5, M =>
    if (M 48 26) ≤ x5 then
     (k20 x1 x2 x3 (x4 + (1 : Int32)) M)
     else
     ((F_M_isRest N x1 x4 x5 M).bind (fun q7 =>
     if q7.1 = (0) then
     (F_M_rests_b32 N k20 n x1 x2 x3 x4 (x5 + (1 : Int32)) q7.2)
     else
     (if x3 = x2 then
     (some (((10 : Int32) * x4) + x5, q7.2))
     else
     (F_M_rests_b32 N k20 n x1 x2 (x3 + (1 : Int32)) x4 (x5 + (1 : Int32)) q7.2))))
set_option maxRecDepth 20000 in
theorem T_M_rests_b32 {g : mj_G} (N : Nat) (e : Nat) (he : 8 ≤ e) (k20 : Int32 → Int32 → Int32 → Int32 → mj_M → Option (Int32 × mj_M)) (hk20 : ∀ (x1 : Int32) (x2 : Int32) (x3 : Int32) (x4 : Int32) (M : mj_M), mj_X g (mj_qI g) "WinterTellersModel" c_M_rests 6 (some .int) e 20 [(0, .ref 48), (1, .int x1), (2, .int x2), (3, .int x3), (4, .int x4)] [] M (k20 x1 x2 x3 x4 M)) : ∀ (n : Nat) (x1 : Int32) (x2 : Int32) (x3 : Int32) (x4 : Int32) (x5 : Int32) (M : mj_M), mj_X g (mj_qI g) "WinterTellersModel" c_M_rests 6 (some .int) e 32 [(0, .ref 48), (1, .int x1), (2, .int x2), (3, .int x3), (4, .int x4), (5, .int x5)] [] M (F_M_rests_b32 N k20 n x1 x2 x3 x4 x5 M) := by
  intro n
  induction n with
  | zero => intro x1 x2 x3 x4 x5 M; exact mj_none
  | succ n ih =>
    intro x1 x2 x3 x4 x5 M
    rw [F_M_rests_b32]
    refine mj_iload (pc := 32) (i := 5) rfl dd_M_rests_32 ?_
    refine mj_aload_n (pc := 34) (i := 0) rfl dd_M_rests_34 ?_
    refine mj_getI (pc := 35) (b := 48) (k := 26) qf_M_245 sh_48 cl_12 rfl (by decide) rfl dd_M_rests_35 ?_
    refine mj_icmp_ge (pc := 38) (tgt := 76) dd_M_rests_38 rfl (fun h6 => ?_) (fun h6 => ?_)
    · refine mj_iinc (pc := 76) (i := 4) (z := (1 : Int32)) rfl (by decide) (by decide) dd_M_rests_76 ?_
      refine mj_L (L' := [(4, .int (x4 + (1 : Int32))), (0, .ref 48), (1, .int x1), (2, .int x2), (3, .int x3)]) [0, 1, 2, 3, 4] rfl ?_
      refine mj_goto (pc := 79) (tgt := 20) dd_M_rests_79 rfl ?_
      refine mj_L (L' := [(0, .ref 48), (1, .int x1), (2, .int x2), (3, .int x3), (4, .int (x4 + (1 : Int32)))]) [1, 2, 3, 4, 0] rfl ?_
      exact hk20 x1 x2 x3 (x4 + (1 : Int32)) M
    · refine mj_aload_n (pc := 41) (i := 0) rfl dd_M_rests_41 ?_
      refine mj_iload_n (pc := 42) (i := 1) rfl dd_M_rests_42 ?_
      refine mj_iload (pc := 43) (i := 4) rfl dd_M_rests_43 ?_
      refine mj_iload (pc := 45) (i := 5) rfl dd_M_rests_45 ?_
      refine mj_callVI (pc := 47) (idx := 387) (b := 48) (As := [.int x1, .int x4, .int x5]) (st := []) sh_48 cl_12 ev_M_isRest ql_M_387 rfl (Nat.le_of_ble_eq_true rfl) (T_M_isRest (g := g) N e (by omega) x1 x4 x5 M) dd_M_rests_47 (fun q7 hq7 => ?_)
      refine mj_if_eq (pc := 50) (tgt := 70) dd_M_rests_50 rfl (fun h8 => ?_) (fun h8 => ?_)
      · refine mj_iinc (pc := 70) (i := 5) (z := (1 : Int32)) rfl (by decide) (by decide) dd_M_rests_70 ?_
        refine mj_L (L' := [(5, .int (x5 + (1 : Int32))), (0, .ref 48), (1, .int x1), (2, .int x2), (3, .int x3), (4, .int x4)]) [0, 1, 2, 3, 4, 5] rfl ?_
        refine mj_goto (pc := 73) (tgt := 32) dd_M_rests_73 rfl ?_
        refine mj_L (L' := [(0, .ref 48), (1, .int x1), (2, .int x2), (3, .int x3), (4, .int x4), (5, .int (x5 + (1 : Int32)))]) [1, 2, 3, 4, 5, 0] rfl ?_
        exact ih x1 x2 x3 x4 (x5 + (1 : Int32)) q7.2
      · refine mj_iload_n (pc := 53) (i := 3) rfl dd_M_rests_53 ?_
        refine mj_iload_n (pc := 54) (i := 2) rfl dd_M_rests_54 ?_
        refine mj_icmp_ne (pc := 55) (tgt := 67) dd_M_rests_55 rfl (fun h9 => ?_) (fun h9 => ?_)
        · refine mj_bipush (pc := 58) (v := (10 : Int32)) (by decide) dd_M_rests_58 ?_
          refine mj_iload (pc := 60) (i := 4) rfl dd_M_rests_60 ?_
          refine mj_imul (pc := 62) dd_M_rests_62 ?_
          refine mj_iload (pc := 63) (i := 5) rfl dd_M_rests_63 ?_
          refine mj_iadd (pc := 65) dd_M_rests_65 ?_
          exact mj_iret dd_M_rests_66 rfl rfl
        · refine mj_iinc (pc := 67) (i := 3) (z := (1 : Int32)) rfl (by decide) (by decide) dd_M_rests_67 ?_
          refine mj_L (L' := [(3, .int (x3 + (1 : Int32))), (0, .ref 48), (1, .int x1), (2, .int x2), (4, .int x4), (5, .int x5)]) [0, 1, 2, 3, 4, 5] rfl ?_
          refine mj_iinc (pc := 70) (i := 5) (z := (1 : Int32)) rfl (by decide) (by decide) dd_M_rests_70 ?_
          refine mj_L (L' := [(5, .int (x5 + (1 : Int32))), (3, .int (x3 + (1 : Int32))), (0, .ref 48), (1, .int x1), (2, .int x2), (4, .int x4)]) [0, 1, 2, 3, 4, 5] rfl ?_
          refine mj_goto (pc := 73) (tgt := 32) dd_M_rests_73 rfl ?_
          refine mj_L (L' := [(0, .ref 48), (1, .int x1), (2, .int x2), (3, .int (x3 + (1 : Int32))), (4, .int x4), (5, .int (x5 + (1 : Int32)))]) [2, 3, 4, 1, 5, 0] rfl ?_
          exact ih x1 x2 (x3 + (1 : Int32)) x4 (x5 + (1 : Int32)) q7.2
def F_M_rests_b20 (N : Nat) : Nat → Int32 → Int32 → Int32 → Int32 → mj_M → Option (Int32 × mj_M)
  | 0, _, _, _, _, _ => none
  | n + 1, x1, x2, x3, x4, M =>
    if (M 48 26) ≤ x4 then
     (if x2 = (-1 : Int32) then
     (some (x3, M))
     else
     (some ((-1 : Int32), M)))
     else
     (F_M_rests_b32 N (F_M_rests_b20 N n) N x1 x2 x3 x4 (0 : Int32) M)
set_option maxRecDepth 20000 in
theorem T_M_rests_b20 {g : mj_G} (N : Nat) (e : Nat) (he : 8 ≤ e) : ∀ (n : Nat) (x1 : Int32) (x2 : Int32) (x3 : Int32) (x4 : Int32) (M : mj_M), mj_X g (mj_qI g) "WinterTellersModel" c_M_rests 6 (some .int) e 20 [(0, .ref 48), (1, .int x1), (2, .int x2), (3, .int x3), (4, .int x4)] [] M (F_M_rests_b20 N n x1 x2 x3 x4 M) := by
  intro n
  induction n with
  | zero => intro x1 x2 x3 x4 M; exact mj_none
  | succ n ih =>
    intro x1 x2 x3 x4 M
    rw [F_M_rests_b20]
    refine mj_iload (pc := 20) (i := 4) rfl dd_M_rests_20 ?_
    refine mj_aload_n (pc := 22) (i := 0) rfl dd_M_rests_22 ?_
    refine mj_getI (pc := 23) (b := 48) (k := 26) qf_M_245 sh_48 cl_12 rfl (by decide) rfl dd_M_rests_23 ?_
    refine mj_icmp_ge (pc := 26) (tgt := 82) dd_M_rests_26 rfl (fun h4 => ?_) (fun h4 => ?_)
    · refine mj_iload_n (pc := 82) (i := 2) rfl dd_M_rests_82 ?_
      refine mj_iconst (pc := 83) (v := (-1 : Int32)) (by decide) dd_M_rests_83 ?_
      refine mj_icmp_ne (pc := 84) (tgt := 91) dd_M_rests_84 rfl (fun h5 => ?_) (fun h5 => ?_)
      · refine mj_iload_n (pc := 87) (i := 3) rfl dd_M_rests_87 ?_
        refine mj_goto (pc := 88) (tgt := 92) dd_M_rests_88 rfl ?_
        exact mj_iret dd_M_rests_92 rfl rfl
      · refine mj_iconst (pc := 91) (v := (-1 : Int32)) (by decide) dd_M_rests_91 ?_
        exact mj_iret dd_M_rests_92 rfl rfl
    · refine mj_iconst (pc := 29) (v := (0 : Int32)) (by decide) dd_M_rests_29 ?_
      refine mj_istore (pc := 30) (by decide) dd_M_rests_30 ?_
      refine mj_L (L' := [(5, .int (0 : Int32)), (0, .ref 48), (1, .int x1), (2, .int x2), (3, .int x3), (4, .int x4)]) [0, 1, 2, 3, 4, 5] rfl ?_
      refine mj_L (L' := [(0, .ref 48), (1, .int x1), (2, .int x2), (3, .int x3), (4, .int x4), (5, .int (0 : Int32))]) [1, 2, 3, 4, 5, 0] rfl ?_
      exact T_M_rests_b32 (g := g) N e he (F_M_rests_b20 N n) ih N x1 x2 x3 x4 (0 : Int32) M
def F_M_rests (N : Nat) (x1 : Int32) (x2 : Int32) (M : mj_M) : Option (Int32 × mj_M) :=
    (F_M_isHouse x1 M).bind (fun q1 =>
     if q1.1 = (0) then
     (some ((-1 : Int32), q1.2))
     else
     (if (-1 : Int32) ≤ x2 then
     (F_M_rests_b20 N N x1 x2 (0 : Int32) (0 : Int32) q1.2)
     else
     (some ((-1 : Int32), q1.2))))
set_option maxRecDepth 20000 in
theorem T_M_rests {g : mj_G} (N : Nat) : ∀ d, 9 ≤ d → ∀ (x1 : Int32) (x2 : Int32) (M : mj_M), mj_Mt g (mj_qI g) d y_M_rests c_M_rests 6 (some .int) [.ref 48, .int x1, .int x2] M (F_M_rests N x1 x2 M) := by
  intro d hd x1 x2 M
  obtain ⟨e, rfl⟩ : ∃ e, d = e + 1 := ⟨d - 1, by omega⟩
  have he : 8 ≤ e := by omega
  refine mj_met (by decide +kernel) (Nat.le_of_ble_eq_true rfl) ?_
  unfold F_M_rests
  refine mj_L (L' := [(0, .ref 48), (1, .int x1), (2, .int x2)]) [0, 1, 2] rfl ?_
  refine mj_aload_n (pc := 0) (i := 0) rfl dd_M_rests_0 ?_
  refine mj_iload_n (pc := 1) (i := 1) rfl dd_M_rests_1 ?_
  refine mj_callVI (pc := 2) (idx := 300) (b := 48) (As := [.int x1]) (st := []) sh_48 cl_12 ev_M_isHouse ql_M_300 rfl (Nat.le_of_ble_eq_true rfl) (T_M_isHouse (g := g) e (by omega) x1 M) dd_M_rests_2 (fun q1 hq1 => ?_)
  refine mj_if_eq (pc := 5) (tgt := 13) dd_M_rests_5 rfl (fun h2 => ?_) (fun h2 => ?_)
  · refine mj_iconst (pc := 13) (v := (-1 : Int32)) (by decide) dd_M_rests_13 ?_
    exact mj_iret dd_M_rests_14 rfl rfl
  · refine mj_iload_n (pc := 8) (i := 2) rfl dd_M_rests_8 ?_
    refine mj_iconst (pc := 9) (v := (-1 : Int32)) (by decide) dd_M_rests_9 ?_
    refine mj_icmp_ge (pc := 10) (tgt := 15) dd_M_rests_10 rfl (fun h3 => ?_) (fun h3 => ?_)
    · refine mj_iconst (pc := 15) (v := (0 : Int32)) (by decide) dd_M_rests_15 ?_
      refine mj_istore_n (pc := 16) (by decide) dd_M_rests_16 ?_
      refine mj_L (L' := [(3, .int (0 : Int32)), (0, .ref 48), (1, .int x1), (2, .int x2)]) [0, 1, 2, 3] rfl ?_
      refine mj_iconst (pc := 17) (v := (0 : Int32)) (by decide) dd_M_rests_17 ?_
      refine mj_istore (pc := 18) (by decide) dd_M_rests_18 ?_
      refine mj_L (L' := [(4, .int (0 : Int32)), (3, .int (0 : Int32)), (0, .ref 48), (1, .int x1), (2, .int x2)]) [0, 1, 2, 3, 4] rfl ?_
      refine mj_L (L' := [(0, .ref 48), (1, .int x1), (2, .int x2), (3, .int (0 : Int32)), (4, .int (0 : Int32))]) [2, 3, 4, 1, 0] rfl ?_
      exact T_M_rests_b20 (g := g) N e he N x1 x2 (0 : Int32) (0 : Int32) q1.2
    · refine mj_iconst (pc := 13) (v := (-1 : Int32)) (by decide) dd_M_rests_13 ?_
      exact mj_iret dd_M_rests_14 rfl rfl
def F_W_odds_b60 (N : Nat) : Nat → Int32 → Int32 → Int64 → Int32 → mj_M → Option (Int32 × mj_M)
  | 0, _, _, _, _, _ => none
  | n + 1, x3, x4, x5, x7, M =>
    if x4 < x7 then
     (some (x5.toInt32, M))
     else
     (mj_lt (x5 - ((x5 * x3.toInt64) / (100 : Int64))) (fun v10 =>
     F_W_odds_b60 N n x3 x4 v10 (x7 + (1 : Int32)) M))
set_option maxRecDepth 20000 in
theorem T_W_odds_b60 {g : mj_G} (N : Nat) (e : Nat) (he : 5 ≤ e) : ∀ (n : Nat) (x3 : Int32) (x4 : Int32) (x5 : Int64) (x7 : Int32) (M : mj_M), mj_X g (mj_qI g) "WinterTellers" c_W_odds 8 (some .int) e 60 [(3, .int x3), (4, .int x4), (5, .long x5), (7, .int x7)] [] M (F_W_odds_b60 N n x3 x4 x5 x7 M) := by
  intro n
  induction n with
  | zero => intro x3 x4 x5 x7 M; exact mj_none
  | succ n ih =>
    intro x3 x4 x5 x7 M
    rw [F_W_odds_b60]
    refine mj_iload (pc := 60) (i := 7) rfl dd_W_odds_60 ?_
    refine mj_iload (pc := 62) (i := 4) rfl dd_W_odds_62 ?_
    refine mj_icmp_gt (pc := 64) (tgt := 87) dd_W_odds_64 rfl (fun h9 => ?_) (fun h9 => ?_)
    · refine mj_lload (pc := 87) (i := 5) rfl dd_W_odds_87 ?_
      refine mj_l2i (pc := 89) dd_W_odds_89 ?_
      exact mj_iret dd_W_odds_90 rfl rfl
    · refine mj_lload (pc := 67) (i := 5) rfl dd_W_odds_67 ?_
      refine mj_lload (pc := 69) (i := 5) rfl dd_W_odds_69 ?_
      refine mj_iload_n (pc := 71) (i := 3) rfl dd_W_odds_71 ?_
      refine mj_i2l (pc := 72) dd_W_odds_72 ?_
      refine mj_lmul (pc := 73) dd_W_odds_73 ?_
      refine mj_ldc2 (pc := 74) qd_W_329 dd_W_odds_74 ?_
      refine mj_ldivK (pc := 77) (by decide) dd_W_odds_77 ?_
      refine mj_lsub (pc := 78) dd_W_odds_78 ?_
      refine mj_lstoreL (pc := 79) (by decide) dd_W_odds_79 (fun v10 _ => ?_)
      refine mj_L (L' := [(5, .long v10), (3, .int x3), (4, .int x4), (7, .int x7)]) [0, 1, 2, 3] rfl ?_
      refine mj_iinc (pc := 81) (i := 7) (z := (1 : Int32)) rfl (by decide) (by decide) dd_W_odds_81 ?_
      refine mj_L (L' := [(7, .int (x7 + (1 : Int32))), (5, .long v10), (3, .int x3), (4, .int x4)]) [0, 1, 2, 3] rfl ?_
      refine mj_goto (pc := 84) (tgt := 60) dd_W_odds_84 rfl ?_
      refine mj_L (L' := [(3, .int x3), (4, .int x4), (5, .long v10), (7, .int (x7 + (1 : Int32)))]) [2, 3, 1, 0] rfl ?_
      exact ih x3 x4 v10 (x7 + (1 : Int32)) M
def F_W_odds (N : Nat) (x1 : Int32) (x2 : Int32) (x3 : Int32) (x4 : Int32) (M : mj_M) : Option (Int32 × mj_M) :=
    (F_Coast_hasBoth x1 x2 M).bind (fun q1 =>
     if q1.1 = (0) then
     (some ((-1 : Int32), q1.2))
     else
     (if x3 < (0) then
     (some ((-1 : Int32), q1.2))
     else
     (if (100 : Int32) < x3 then
     (some ((-1 : Int32), q1.2))
     else
     (if x4 < (0) then
     (some ((-1 : Int32), q1.2))
     else
     (if x4 ≤ (20 : Int32) then
     ((F_Stays_now N x1 x2 q1.2).bind (fun q7 =>
     if x4 ≤ q7.1 then
     (F_W_odds_b60 N N x3 x4 (1000000000 : Int64) (2 : Int32) q7.2)
     else
     (some ((0 : Int32), q7.2))))
     else
     (some ((-1 : Int32), q1.2)))))))
set_option maxRecDepth 20000 in
theorem T_W_odds {g : mj_G} (N : Nat) : ∀ d, 6 ≤ d → ∀ (x1 : Int32) (x2 : Int32) (x3 : Int32) (x4 : Int32) (M : mj_M), mj_Mt g (mj_qI g) d y_W_odds c_W_odds 8 (some .int) [.ref 0, .int x1, .int x2, .int x3, .int x4] M (F_W_odds N x1 x2 x3 x4 M) := by
  intro d hd x1 x2 x3 x4 M
  obtain ⟨e, rfl⟩ : ∃ e, d = e + 1 := ⟨d - 1, by omega⟩
  have he : 5 ≤ e := by omega
  refine mj_met (by decide +kernel) (Nat.le_of_ble_eq_true rfl) ?_
  unfold F_W_odds
  refine mj_L (L' := [(0, .ref 0), (1, .int x1), (2, .int x2), (3, .int x3), (4, .int x4)]) [0, 1, 2, 3, 4] rfl ?_
  refine mj_aload_n (pc := 0) (i := 0) rfl dd_W_odds_0 ?_
  refine mj_getR (pc := 1) (b := 0) (k := 4) qf_W_42 sh_0 cl_11 rfl (by decide) (r := 13) rfl dd_W_odds_1 ?_
  refine mj_iload_n (pc := 4) (i := 1) rfl dd_W_odds_4 ?_
  refine mj_iload_n (pc := 5) (i := 2) rfl dd_W_odds_5 ?_
  refine mj_callVI (pc := 6) (idx := 181) (b := 13) (As := [.int x1, .int x2]) (st := []) sh_13 cl_0 ev_Coast_hasBoth ql_W_181 rfl (Nat.le_of_ble_eq_true rfl) (T_Coast_hasBoth (g := g) e (by omega) x1 x2 M) dd_W_odds_6 (fun q1 hq1 => ?_)
  refine mj_if_eq (pc := 9) (tgt := 34) dd_W_odds_9 rfl (fun h2 => ?_) (fun h2 => ?_)
  · refine mj_iconst (pc := 34) (v := (-1 : Int32)) (by decide) dd_W_odds_34 ?_
    exact mj_iret dd_W_odds_35 rfl rfl
  · refine mj_iload_n (pc := 12) (i := 3) rfl dd_W_odds_12 ?_
    refine mj_if_lt (pc := 13) (tgt := 34) dd_W_odds_13 rfl (fun h3 => ?_) (fun h3 => ?_)
    · refine mj_iconst (pc := 34) (v := (-1 : Int32)) (by decide) dd_W_odds_34 ?_
      exact mj_iret dd_W_odds_35 rfl rfl
    · refine mj_iload_n (pc := 16) (i := 3) rfl dd_W_odds_16 ?_
      refine mj_bipush (pc := 17) (v := (100 : Int32)) (by decide) dd_W_odds_17 ?_
      refine mj_icmp_gt (pc := 19) (tgt := 34) dd_W_odds_19 rfl (fun h4 => ?_) (fun h4 => ?_)
      · refine mj_iconst (pc := 34) (v := (-1 : Int32)) (by decide) dd_W_odds_34 ?_
        exact mj_iret dd_W_odds_35 rfl rfl
      · refine mj_iload (pc := 22) (i := 4) rfl dd_W_odds_22 ?_
        refine mj_if_lt (pc := 24) (tgt := 34) dd_W_odds_24 rfl (fun h5 => ?_) (fun h5 => ?_)
        · refine mj_iconst (pc := 34) (v := (-1 : Int32)) (by decide) dd_W_odds_34 ?_
          exact mj_iret dd_W_odds_35 rfl rfl
        · refine mj_iload (pc := 27) (i := 4) rfl dd_W_odds_27 ?_
          refine mj_bipush (pc := 29) (v := (20 : Int32)) (by decide) dd_W_odds_29 ?_
          refine mj_icmp_le (pc := 31) (tgt := 36) dd_W_odds_31 rfl (fun h6 => ?_) (fun h6 => ?_)
          · refine mj_iload (pc := 36) (i := 4) rfl dd_W_odds_36 ?_
            refine mj_aload_n (pc := 38) (i := 0) rfl dd_W_odds_38 ?_
            refine mj_getR (pc := 39) (b := 0) (k := 7) qf_W_65 sh_0 cl_11 rfl (by decide) (r := 28) rfl dd_W_odds_39 ?_
            refine mj_iload_n (pc := 42) (i := 1) rfl dd_W_odds_42 ?_
            refine mj_iload_n (pc := 43) (i := 2) rfl dd_W_odds_43 ?_
            refine mj_callVI (pc := 44) (idx := 188) (b := 28) (As := [.int x1, .int x2]) (st := [.int x4]) sh_28 cl_9 ev_Stays_now ql_W_188 rfl (Nat.le_of_ble_eq_true rfl) (T_Stays_now (g := g) N e (by omega) x1 x2 q1.2) dd_W_odds_44 (fun q7 hq7 => ?_)
            refine mj_icmp_le (pc := 47) (tgt := 52) dd_W_odds_47 rfl (fun h8 => ?_) (fun h8 => ?_)
            · refine mj_ldc2 (pc := 52) qd_W_327 dd_W_odds_52 ?_
              refine mj_lstore (pc := 55) (by decide) dd_W_odds_55 ?_
              refine mj_L (L' := [(5, .long (1000000000 : Int64)), (3, .int x3), (4, .int x4)]) [0, 4, 5] rfl ?_
              refine mj_iconst (pc := 57) (v := (2 : Int32)) (by decide) dd_W_odds_57 ?_
              refine mj_istore (pc := 58) (by decide) dd_W_odds_58 ?_
              refine mj_L (L' := [(7, .int (2 : Int32)), (5, .long (1000000000 : Int64)), (3, .int x3), (4, .int x4)]) [0, 1, 2, 3] rfl ?_
              refine mj_L (L' := [(3, .int x3), (4, .int x4), (5, .long (1000000000 : Int64)), (7, .int (2 : Int32))]) [2, 3, 1, 0] rfl ?_
              exact T_W_odds_b60 (g := g) N e he N x3 x4 (1000000000 : Int64) (2 : Int32) q7.2
            · refine mj_iconst (pc := 50) (v := (0 : Int32)) (by decide) dd_W_odds_50 ?_
              exact mj_iret dd_W_odds_51 rfl rfl
          · refine mj_iconst (pc := 34) (v := (-1 : Int32)) (by decide) dd_W_odds_34 ?_
            exact mj_iret dd_W_odds_35 rfl rfl
def F_M_odds_b60 (N : Nat) : Nat → Int32 → Int32 → Int32 → Int32 → mj_M → Option (Int32 × mj_M)
  | 0, _, _, _, _, _ => none
  | n + 1, x3, x4, x5, x6, M =>
    if x4 ≤ x6 then
     (some (x5, M))
     else
     (mj_lt (x5 - (((x5.toInt64 * x3.toInt64) / (100 : Int64)).toInt32)) (fun v12 =>
     F_M_odds_b60 N n x3 x4 v12 (x6 + (1 : Int32)) M))
set_option maxRecDepth 20000 in
theorem T_M_odds_b60 {g : mj_G} (N : Nat) (e : Nat) (he : 6 ≤ e) : ∀ (n : Nat) (x3 : Int32) (x4 : Int32) (x5 : Int32) (x6 : Int32) (M : mj_M), mj_X g (mj_qI g) "WinterTellersModel" c_M_odds 7 (some .int) e 60 [(3, .int x3), (4, .int x4), (5, .int x5), (6, .int x6)] [] M (F_M_odds_b60 N n x3 x4 x5 x6 M) := by
  intro n
  induction n with
  | zero => intro x3 x4 x5 x6 M; exact mj_none
  | succ n ih =>
    intro x3 x4 x5 x6 M
    rw [F_M_odds_b60]
    refine mj_iload (pc := 60) (i := 6) rfl dd_M_odds_60 ?_
    refine mj_iload (pc := 62) (i := 4) rfl dd_M_odds_62 ?_
    refine mj_icmp_ge (pc := 64) (tgt := 89) dd_M_odds_64 rfl (fun h11 => ?_) (fun h11 => ?_)
    · refine mj_iload (pc := 89) (i := 5) rfl dd_M_odds_89 ?_
      exact mj_iret dd_M_odds_91 rfl rfl
    · refine mj_iload (pc := 67) (i := 5) rfl dd_M_odds_67 ?_
      refine mj_iload (pc := 69) (i := 5) rfl dd_M_odds_69 ?_
      refine mj_i2l (pc := 71) dd_M_odds_71 ?_
      refine mj_iload_n (pc := 72) (i := 3) rfl dd_M_odds_72 ?_
      refine mj_i2l (pc := 73) dd_M_odds_73 ?_
      refine mj_lmul (pc := 74) dd_M_odds_74 ?_
      refine mj_ldc2 (pc := 75) qd_M_391 dd_M_odds_75 ?_
      refine mj_ldivK (pc := 78) (by decide) dd_M_odds_78 ?_
      refine mj_l2i (pc := 79) dd_M_odds_79 ?_
      refine mj_isub (pc := 80) dd_M_odds_80 ?_
      refine mj_istoreL (pc := 81) (by decide) dd_M_odds_81 (fun v12 _ => ?_)
      refine mj_L (L' := [(5, .int v12), (3, .int x3), (4, .int x4), (6, .int x6)]) [0, 1, 2, 3] rfl ?_
      refine mj_iinc (pc := 83) (i := 6) (z := (1 : Int32)) rfl (by decide) (by decide) dd_M_odds_83 ?_
      refine mj_L (L' := [(6, .int (x6 + (1 : Int32))), (5, .int v12), (3, .int x3), (4, .int x4)]) [0, 1, 2, 3] rfl ?_
      refine mj_goto (pc := 86) (tgt := 60) dd_M_odds_86 rfl ?_
      refine mj_L (L' := [(3, .int x3), (4, .int x4), (5, .int v12), (6, .int (x6 + (1 : Int32)))]) [2, 3, 1, 0] rfl ?_
      exact ih x3 x4 v12 (x6 + (1 : Int32)) M
def F_M_odds (N : Nat) (x1 : Int32) (x2 : Int32) (x3 : Int32) (x4 : Int32) (M : mj_M) : Option (Int32 × mj_M) :=
    (F_M_isHouse x1 M).bind (fun q1 =>
     if q1.1 = (0) then
     (some ((-1 : Int32), q1.2))
     else
     ((F_M_isTale x2 q1.2).bind (fun q3 =>
     if q3.1 = (0) then
     (some ((-1 : Int32), q3.2))
     else
     ((F_M_in x3 (0 : Int32) (100 : Int32) q3.2).bind (fun q5 =>
     if q5.1 = (0) then
     (some ((-1 : Int32), q5.2))
     else
     ((F_M_in x4 (0 : Int32) (20 : Int32) q5.2).bind (fun q7 =>
     if q7.1 = (0) then
     (some ((-1 : Int32), q7.2))
     else
     ((F_M_nightsNow N x1 x2 q7.2).bind (fun q9 =>
     if x4 ≤ q9.1 then
     (F_M_odds_b60 N N x3 x4 (1000000000 : Int32) (1 : Int32) q9.2)
     else
     (some ((0 : Int32), q9.2)))))))))))
set_option maxRecDepth 20000 in
theorem T_M_odds {g : mj_G} (N : Nat) : ∀ d, 7 ≤ d → ∀ (x1 : Int32) (x2 : Int32) (x3 : Int32) (x4 : Int32) (M : mj_M), mj_Mt g (mj_qI g) d y_M_odds c_M_odds 7 (some .int) [.ref 48, .int x1, .int x2, .int x3, .int x4] M (F_M_odds N x1 x2 x3 x4 M) := by
  intro d hd x1 x2 x3 x4 M
  obtain ⟨e, rfl⟩ : ∃ e, d = e + 1 := ⟨d - 1, by omega⟩
  have he : 6 ≤ e := by omega
  refine mj_met (by decide +kernel) (Nat.le_of_ble_eq_true rfl) ?_
  unfold F_M_odds
  refine mj_L (L' := [(0, .ref 48), (1, .int x1), (2, .int x2), (3, .int x3), (4, .int x4)]) [0, 1, 2, 3, 4] rfl ?_
  refine mj_aload_n (pc := 0) (i := 0) rfl dd_M_odds_0 ?_
  refine mj_iload_n (pc := 1) (i := 1) rfl dd_M_odds_1 ?_
  refine mj_callVI (pc := 2) (idx := 300) (b := 48) (As := [.int x1]) (st := []) sh_48 cl_12 ev_M_isHouse ql_M_300 rfl (Nat.le_of_ble_eq_true rfl) (T_M_isHouse (g := g) e (by omega) x1 M) dd_M_odds_2 (fun q1 hq1 => ?_)
  refine mj_if_eq (pc := 5) (tgt := 37) dd_M_odds_5 rfl (fun h2 => ?_) (fun h2 => ?_)
  · refine mj_iconst (pc := 37) (v := (-1 : Int32)) (by decide) dd_M_odds_37 ?_
    exact mj_iret dd_M_odds_38 rfl rfl
  · refine mj_aload_n (pc := 8) (i := 0) rfl dd_M_odds_8 ?_
    refine mj_iload_n (pc := 9) (i := 2) rfl dd_M_odds_9 ?_
    refine mj_callVI (pc := 10) (idx := 306) (b := 48) (As := [.int x2]) (st := []) sh_48 cl_12 ev_M_isTale ql_M_306 rfl (Nat.le_of_ble_eq_true rfl) (T_M_isTale (g := g) e (by omega) x2 q1.2) dd_M_odds_10 (fun q3 hq3 => ?_)
    refine mj_if_eq (pc := 13) (tgt := 37) dd_M_odds_13 rfl (fun h4 => ?_) (fun h4 => ?_)
    · refine mj_iconst (pc := 37) (v := (-1 : Int32)) (by decide) dd_M_odds_37 ?_
      exact mj_iret dd_M_odds_38 rfl rfl
    · refine mj_iload_n (pc := 16) (i := 3) rfl dd_M_odds_16 ?_
      refine mj_iconst (pc := 17) (v := (0 : Int32)) (by decide) dd_M_odds_17 ?_
      refine mj_bipush (pc := 18) (v := (100 : Int32)) (by decide) dd_M_odds_18 ?_
      refine mj_callSI (pc := 20) (idx := 205) (As := [.int x3, .int (0 : Int32), .int (100 : Int32)]) (st := []) es_M_in ql_M_205 rfl (Nat.le_of_ble_eq_true rfl) (T_M_in (g := g) e (by omega) x3 (0 : Int32) (100 : Int32) q3.2) dd_M_odds_20 (fun q5 hq5 => ?_)
      refine mj_if_eq (pc := 23) (tgt := 37) dd_M_odds_23 rfl (fun h6 => ?_) (fun h6 => ?_)
      · refine mj_iconst (pc := 37) (v := (-1 : Int32)) (by decide) dd_M_odds_37 ?_
        exact mj_iret dd_M_odds_38 rfl rfl
      · refine mj_iload (pc := 26) (i := 4) rfl dd_M_odds_26 ?_
        refine mj_iconst (pc := 28) (v := (0 : Int32)) (by decide) dd_M_odds_28 ?_
        refine mj_bipush (pc := 29) (v := (20 : Int32)) (by decide) dd_M_odds_29 ?_
        refine mj_callSI (pc := 31) (idx := 205) (As := [.int x4, .int (0 : Int32), .int (20 : Int32)]) (st := []) es_M_in ql_M_205 rfl (Nat.le_of_ble_eq_true rfl) (T_M_in (g := g) e (by omega) x4 (0 : Int32) (20 : Int32) q5.2) dd_M_odds_31 (fun q7 hq7 => ?_)
        refine mj_if_ne (pc := 34) (tgt := 39) dd_M_odds_34 rfl (fun h8 => ?_) (fun h8 => ?_)
        · refine mj_iconst (pc := 37) (v := (-1 : Int32)) (by decide) dd_M_odds_37 ?_
          exact mj_iret dd_M_odds_38 rfl rfl
        · refine mj_aload_n (pc := 39) (i := 0) rfl dd_M_odds_39 ?_
          refine mj_iload_n (pc := 40) (i := 1) rfl dd_M_odds_40 ?_
          refine mj_iload_n (pc := 41) (i := 2) rfl dd_M_odds_41 ?_
          refine mj_callVI (pc := 42) (idx := 284) (b := 48) (As := [.int x1, .int x2]) (st := []) sh_48 cl_12 ev_M_nightsNow ql_M_284 rfl (Nat.le_of_ble_eq_true rfl) (T_M_nightsNow (g := g) N e (by omega) x1 x2 q7.2) dd_M_odds_42 (fun q9 hq9 => ?_)
          refine mj_iload (pc := 45) (i := 4) rfl dd_M_odds_45 ?_
          refine mj_icmp_ge (pc := 47) (tgt := 52) dd_M_odds_47 rfl (fun h10 => ?_) (fun h10 => ?_)
          · refine mj_ldcw (pc := 52) qc_M_390 dd_M_odds_52 ?_
            refine mj_istore (pc := 55) (by decide) dd_M_odds_55 ?_
            refine mj_L (L' := [(5, .int (1000000000 : Int32)), (3, .int x3), (4, .int x4)]) [0, 4, 5] rfl ?_
            refine mj_iconst (pc := 57) (v := (1 : Int32)) (by decide) dd_M_odds_57 ?_
            refine mj_istore (pc := 58) (by decide) dd_M_odds_58 ?_
            refine mj_L (L' := [(6, .int (1 : Int32)), (5, .int (1000000000 : Int32)), (3, .int x3), (4, .int x4)]) [0, 1, 2, 3] rfl ?_
            refine mj_L (L' := [(3, .int x3), (4, .int x4), (5, .int (1000000000 : Int32)), (6, .int (1 : Int32))]) [2, 3, 1, 0] rfl ?_
            exact T_M_odds_b60 (g := g) N e he N x3 x4 (1000000000 : Int32) (1 : Int32) q9.2
          · refine mj_iconst (pc := 50) (v := (0 : Int32)) (by decide) dd_M_odds_50 ?_
            exact mj_iret dd_M_odds_51 rfl rfl
def F_W_reach_b16 (N : Nat) : Nat → Int32 → Int32 → mj_M → Option (Int32 × mj_M)
  | 0, _, _, _ => none
  | n + 1, x1, x2, M =>
    if (M 13 0) ≤ x2 then
     (some (x1, M))
     else
     ((F_Stand_farTo x2 M).bind (fun q4 =>
     if (q4.2 20 2) < q4.1 then
     (F_W_reach_b16 N n x1 (x2 + (1 : Int32)) q4.2)
     else
     (mj_lt (x1 ||| ((1 : Int32) <<< (x2 &&& 31))) (fun v6 =>
     F_W_reach_b16 N n v6 (x2 + (1 : Int32)) q4.2))))
set_option maxRecDepth 20000 in
theorem T_W_reach_b16 {g : mj_G} (N : Nat) (e : Nat) (he : 1 ≤ e) : ∀ (n : Nat) (x1 : Int32) (x2 : Int32) (M : mj_M), mj_X g (mj_qI g) "WinterTellers" c_W_reach 3 (some .int) e 16 [(0, .ref 0), (1, .int x1), (2, .int x2)] [] M (F_W_reach_b16 N n x1 x2 M) := by
  intro n
  induction n with
  | zero => intro x1 x2 M; exact mj_none
  | succ n ih =>
    intro x1 x2 M
    rw [F_W_reach_b16]
    refine mj_iload_n (pc := 16) (i := 2) rfl dd_W_reach_16 ?_
    refine mj_aload_n (pc := 17) (i := 0) rfl dd_W_reach_17 ?_
    refine mj_getR (pc := 18) (b := 0) (k := 4) qf_W_42 sh_0 cl_11 rfl (by decide) (r := 13) rfl dd_W_reach_18 ?_
    refine mj_getI (pc := 21) (b := 13) (k := 0) qf_W_121 sh_13 cl_0 rfl (by decide) rfl dd_W_reach_21 ?_
    refine mj_icmp_ge (pc := 24) (tgt := 57) dd_W_reach_24 rfl (fun h3 => ?_) (fun h3 => ?_)
    · refine mj_iload_n (pc := 57) (i := 1) rfl dd_W_reach_57 ?_
      exact mj_iret dd_W_reach_58 rfl rfl
    · refine mj_aload_n (pc := 27) (i := 0) rfl dd_W_reach_27 ?_
      refine mj_getR (pc := 28) (b := 0) (k := 5) qf_W_49 sh_0 cl_11 rfl (by decide) (r := 20) rfl dd_W_reach_28 ?_
      refine mj_iload_n (pc := 31) (i := 2) rfl dd_W_reach_31 ?_
      refine mj_callVI (pc := 32) (idx := 215) (b := 20) (As := [.int x2]) (st := []) sh_20 cl_8 ev_Stand_farTo ql_W_215 rfl (Nat.le_of_ble_eq_true rfl) (T_Stand_farTo (g := g) e (by omega) x2 M) dd_W_reach_32 (fun q4 hq4 => ?_)
      refine mj_aload_n (pc := 35) (i := 0) rfl dd_W_reach_35 ?_
      refine mj_getR (pc := 36) (b := 0) (k := 5) qf_W_49 sh_0 cl_11 rfl (by decide) (r := 20) rfl dd_W_reach_36 ?_
      refine mj_getI (pc := 39) (b := 20) (k := 2) qf_W_218 sh_20 cl_8 rfl (by decide) rfl dd_W_reach_39 ?_
      refine mj_icmp_gt (pc := 42) (tgt := 51) dd_W_reach_42 rfl (fun h5 => ?_) (fun h5 => ?_)
      · refine mj_iinc (pc := 51) (i := 2) (z := (1 : Int32)) rfl (by decide) (by decide) dd_W_reach_51 ?_
        refine mj_L (L' := [(2, .int (x2 + (1 : Int32))), (0, .ref 0), (1, .int x1)]) [0, 1, 2] rfl ?_
        refine mj_goto (pc := 54) (tgt := 16) dd_W_reach_54 rfl ?_
        refine mj_L (L' := [(0, .ref 0), (1, .int x1), (2, .int (x2 + (1 : Int32)))]) [1, 2, 0] rfl ?_
        exact ih x1 (x2 + (1 : Int32)) q4.2
      · refine mj_iload_n (pc := 45) (i := 1) rfl dd_W_reach_45 ?_
        refine mj_iconst (pc := 46) (v := (1 : Int32)) (by decide) dd_W_reach_46 ?_
        refine mj_iload_n (pc := 47) (i := 2) rfl dd_W_reach_47 ?_
        refine mj_ishl (pc := 48) dd_W_reach_48 ?_
        refine mj_ior (pc := 49) dd_W_reach_49 ?_
        refine mj_istore_nL (pc := 50) (by decide) dd_W_reach_50 (fun v6 _ => ?_)
        refine mj_L (L' := [(1, .int v6), (0, .ref 0), (2, .int x2)]) [0, 1, 2] rfl ?_
        refine mj_iinc (pc := 51) (i := 2) (z := (1 : Int32)) rfl (by decide) (by decide) dd_W_reach_51 ?_
        refine mj_L (L' := [(2, .int (x2 + (1 : Int32))), (1, .int v6), (0, .ref 0)]) [0, 1, 2] rfl ?_
        refine mj_goto (pc := 54) (tgt := 16) dd_W_reach_54 rfl ?_
        refine mj_L (L' := [(0, .ref 0), (1, .int v6), (2, .int (x2 + (1 : Int32)))]) [2, 1, 0] rfl ?_
        exact ih v6 (x2 + (1 : Int32)) q4.2
def F_W_reach (N : Nat) (M : mj_M) : Option (Int32 × mj_M) :=
    (F_Coast_isTold M).bind (fun q1 =>
     if q1.1 = (0) then
     (some ((-1 : Int32), q1.2))
     else
     (F_W_reach_b16 N N (0 : Int32) (0 : Int32) q1.2))
set_option maxRecDepth 20000 in
theorem T_W_reach {g : mj_G} (N : Nat) : ∀ d, 2 ≤ d → ∀ (M : mj_M), mj_Mt g (mj_qI g) d y_W_reach c_W_reach 3 (some .int) [.ref 0] M (F_W_reach N M) := by
  intro d hd M
  obtain ⟨e, rfl⟩ : ∃ e, d = e + 1 := ⟨d - 1, by omega⟩
  have he : 1 ≤ e := by omega
  refine mj_met (by decide +kernel) (Nat.le_of_ble_eq_true rfl) ?_
  unfold F_W_reach
  refine mj_L (L' := [(0, .ref 0)]) [0] rfl ?_
  refine mj_aload_n (pc := 0) (i := 0) rfl dd_W_reach_0 ?_
  refine mj_getR (pc := 1) (b := 0) (k := 4) qf_W_42 sh_0 cl_11 rfl (by decide) (r := 13) rfl dd_W_reach_1 ?_
  refine mj_callVI (pc := 4) (idx := 235) (b := 13) (As := []) (st := []) sh_13 cl_0 ev_Coast_isTold ql_W_235 rfl (Nat.le_of_ble_eq_true rfl) (T_Coast_isTold (g := g) e (by omega) M) dd_W_reach_4 (fun q1 hq1 => ?_)
  refine mj_if_ne (pc := 7) (tgt := 12) dd_W_reach_7 rfl (fun h2 => ?_) (fun h2 => ?_)
  · refine mj_iconst (pc := 10) (v := (-1 : Int32)) (by decide) dd_W_reach_10 ?_
    exact mj_iret dd_W_reach_11 rfl rfl
  · refine mj_iconst (pc := 12) (v := (0 : Int32)) (by decide) dd_W_reach_12 ?_
    refine mj_istore_n (pc := 13) (by decide) dd_W_reach_13 ?_
    refine mj_L (L' := [(1, .int (0 : Int32)), (0, .ref 0)]) [0, 1] rfl ?_
    refine mj_iconst (pc := 14) (v := (0 : Int32)) (by decide) dd_W_reach_14 ?_
    refine mj_istore_n (pc := 15) (by decide) dd_W_reach_15 ?_
    refine mj_L (L' := [(2, .int (0 : Int32)), (1, .int (0 : Int32)), (0, .ref 0)]) [0, 1, 2] rfl ?_
    refine mj_L (L' := [(0, .ref 0), (1, .int (0 : Int32)), (2, .int (0 : Int32))]) [2, 1, 0] rfl ?_
    exact T_W_reach_b16 (g := g) N e he N (0 : Int32) (0 : Int32) q1.2
def F_M_reach_b13 (N : Nat) : Nat → Int32 → Int32 → mj_M → Option (Int32 × mj_M)
  | 0, _, _, _ => none
  | n + 1, x1, x2, M =>
    if (M 48 25) ≤ x2 then
     (some (x1, M))
     else
     ((F_M_farTo x2 M).bind (fun q3 =>
     if (q3.2 65 44) < q3.1 then
     (mj_lt (x1 ||| (0 : Int32)) (fun v5 =>
     F_M_reach_b13 N n v5 (x2 + (1 : Int32)) q3.2))
     else
     (mj_lt (x1 ||| ((1 : Int32) <<< (x2 &&& 31))) (fun v6 =>
     F_M_reach_b13 N n v6 (x2 + (1 : Int32)) q3.2))))
set_option maxRecDepth 20000 in
theorem T_M_reach_b13 {g : mj_G} (N : Nat) (e : Nat) (he : 1 ≤ e) : ∀ (n : Nat) (x1 : Int32) (x2 : Int32) (M : mj_M), mj_X g (mj_qI g) "WinterTellersModel" c_M_reach 3 (some .int) e 13 [(0, .ref 48), (1, .int x1), (2, .int x2)] [] M (F_M_reach_b13 N n x1 x2 M) := by
  intro n
  induction n with
  | zero => intro x1 x2 M; exact mj_none
  | succ n ih =>
    intro x1 x2 M
    rw [F_M_reach_b13]
    refine mj_iload_n (pc := 13) (i := 2) rfl dd_M_reach_13 ?_
    refine mj_aload_n (pc := 14) (i := 0) rfl dd_M_reach_14 ?_
    refine mj_getI (pc := 15) (b := 48) (k := 25) qf_M_242 sh_48 cl_12 rfl (by decide) rfl dd_M_reach_15 ?_
    refine mj_icmp_ge (pc := 18) (tgt := 52) dd_M_reach_18 rfl (fun h2 => ?_) (fun h2 => ?_)
    · refine mj_iload_n (pc := 52) (i := 1) rfl dd_M_reach_52 ?_
      exact mj_iret dd_M_reach_53 rfl rfl
    · refine mj_iload_n (pc := 21) (i := 1) rfl dd_M_reach_21 ?_
      refine mj_aload_n (pc := 22) (i := 0) rfl dd_M_reach_22 ?_
      refine mj_iload_n (pc := 23) (i := 2) rfl dd_M_reach_23 ?_
      refine mj_callVI (pc := 24) (idx := 290) (b := 48) (As := [.int x2]) (st := [.int x1]) sh_48 cl_12 ev_M_farTo ql_M_290 rfl (Nat.le_of_ble_eq_true rfl) (T_M_farTo (g := g) e (by omega) x2 M) dd_M_reach_24 (fun q3 hq3 => ?_)
      refine mj_aload_n (pc := 27) (i := 0) rfl dd_M_reach_27 ?_
      refine mj_getR (pc := 28) (b := 48) (k := 27) qf_M_58 sh_48 cl_12 rfl (by decide) (r := 65) rfl dd_M_reach_28 ?_
      refine mj_bipush (pc := 31) (v := (44 : Int32)) (by decide) dd_M_reach_31 ?_
      refine mj_ialdK (pc := 33) (j := 44) sh_65 (by decide) rfl dd_M_reach_33 ?_
      refine mj_icmp_gt (pc := 34) (tgt := 43) dd_M_reach_34 rfl (fun h4 => ?_) (fun h4 => ?_)
      · refine mj_iconst (pc := 43) (v := (0 : Int32)) (by decide) dd_M_reach_43 ?_
        refine mj_ior (pc := 44) dd_M_reach_44 ?_
        refine mj_istore_nL (pc := 45) (by decide) dd_M_reach_45 (fun v5 _ => ?_)
        refine mj_L (L' := [(1, .int v5), (0, .ref 48), (2, .int x2)]) [0, 1, 2] rfl ?_
        refine mj_iinc (pc := 46) (i := 2) (z := (1 : Int32)) rfl (by decide) (by decide) dd_M_reach_46 ?_
        refine mj_L (L' := [(2, .int (x2 + (1 : Int32))), (1, .int v5), (0, .ref 48)]) [0, 1, 2] rfl ?_
        refine mj_goto (pc := 49) (tgt := 13) dd_M_reach_49 rfl ?_
        refine mj_L (L' := [(0, .ref 48), (1, .int v5), (2, .int (x2 + (1 : Int32)))]) [2, 1, 0] rfl ?_
        exact ih v5 (x2 + (1 : Int32)) q3.2
      · refine mj_iconst (pc := 37) (v := (1 : Int32)) (by decide) dd_M_reach_37 ?_
        refine mj_iload_n (pc := 38) (i := 2) rfl dd_M_reach_38 ?_
        refine mj_ishl (pc := 39) dd_M_reach_39 ?_
        refine mj_goto (pc := 40) (tgt := 44) dd_M_reach_40 rfl ?_
        refine mj_ior (pc := 44) dd_M_reach_44 ?_
        refine mj_istore_nL (pc := 45) (by decide) dd_M_reach_45 (fun v6 _ => ?_)
        refine mj_L (L' := [(1, .int v6), (0, .ref 48), (2, .int x2)]) [0, 1, 2] rfl ?_
        refine mj_iinc (pc := 46) (i := 2) (z := (1 : Int32)) rfl (by decide) (by decide) dd_M_reach_46 ?_
        refine mj_L (L' := [(2, .int (x2 + (1 : Int32))), (1, .int v6), (0, .ref 48)]) [0, 1, 2] rfl ?_
        refine mj_goto (pc := 49) (tgt := 13) dd_M_reach_49 rfl ?_
        refine mj_L (L' := [(0, .ref 48), (1, .int v6), (2, .int (x2 + (1 : Int32)))]) [2, 1, 0] rfl ?_
        exact ih v6 (x2 + (1 : Int32)) q3.2
def F_M_reach (N : Nat) (M : mj_M) : Option (Int32 × mj_M) :=
    if (M 48 25) = (0) then
     (some ((-1 : Int32), M))
     else
     (F_M_reach_b13 N N (0 : Int32) (0 : Int32) M)
set_option maxRecDepth 20000 in
theorem T_M_reach {g : mj_G} (N : Nat) : ∀ d, 2 ≤ d → ∀ (M : mj_M), mj_Mt g (mj_qI g) d y_M_reach c_M_reach 3 (some .int) [.ref 48] M (F_M_reach N M) := by
  intro d hd M
  obtain ⟨e, rfl⟩ : ∃ e, d = e + 1 := ⟨d - 1, by omega⟩
  have he : 1 ≤ e := by omega
  refine mj_met (by decide +kernel) (Nat.le_of_ble_eq_true rfl) ?_
  unfold F_M_reach
  refine mj_L (L' := [(0, .ref 48)]) [0] rfl ?_
  refine mj_aload_n (pc := 0) (i := 0) rfl dd_M_reach_0 ?_
  refine mj_getI (pc := 1) (b := 48) (k := 25) qf_M_242 sh_48 cl_12 rfl (by decide) rfl dd_M_reach_1 ?_
  refine mj_if_ne (pc := 4) (tgt := 9) dd_M_reach_4 rfl (fun h1 => ?_) (fun h1 => ?_)
  · refine mj_iconst (pc := 7) (v := (-1 : Int32)) (by decide) dd_M_reach_7 ?_
    exact mj_iret dd_M_reach_8 rfl rfl
  · refine mj_iconst (pc := 9) (v := (0 : Int32)) (by decide) dd_M_reach_9 ?_
    refine mj_istore_n (pc := 10) (by decide) dd_M_reach_10 ?_
    refine mj_L (L' := [(1, .int (0 : Int32)), (0, .ref 48)]) [0, 1] rfl ?_
    refine mj_iconst (pc := 11) (v := (0 : Int32)) (by decide) dd_M_reach_11 ?_
    refine mj_istore_n (pc := 12) (by decide) dd_M_reach_12 ?_
    refine mj_L (L' := [(2, .int (0 : Int32)), (1, .int (0 : Int32)), (0, .ref 48)]) [0, 1, 2] rfl ?_
    refine mj_L (L' := [(0, .ref 48), (1, .int (0 : Int32)), (2, .int (0 : Int32))]) [2, 1, 0] rfl ?_
    exact T_M_reach_b13 (g := g) N e he N (0 : Int32) (0 : Int32) M
def F_W_shares_b29 (N : Nat) : Nat → Int32 → Int32 → Int32 → Int32 → mj_M → Option (Int32 × mj_M)
  | 0, _, _, _, _, _ => none
  | n + 1, x1, x2, x3, x4, M =>
    if (M 13 1) ≤ x4 then
     (if x3 ≤ (0) then
     (some ((0 : Int32), M))
     else
     (mj_ck x1 6 (
     if x3 = 0 then none else
     some ((x2 * (M 17 x1.toNatClampNeg)) / x3, M))))
     else
     (mj_ck x4 6 (
     mj_lt (x3 + (M 17 x4.toNatClampNeg)) (fun v7 =>
     F_W_shares_b29 N n x1 x2 v7 (x4 + (1 : Int32)) M)))
set_option maxRecDepth 20000 in
theorem T_W_shares_b29 {g : mj_G} (N : Nat) (e : Nat) (he : 1 ≤ e) : ∀ (n : Nat) (x1 : Int32) (x2 : Int32) (x3 : Int32) (x4 : Int32) (M : mj_M), mj_X g (mj_qI g) "WinterTellers" c_W_shares 5 (some .int) e 29 [(0, .ref 0), (1, .int x1), (2, .int x2), (3, .int x3), (4, .int x4)] [] M (F_W_shares_b29 N n x1 x2 x3 x4 M) := by
  intro n
  induction n with
  | zero => intro x1 x2 x3 x4 M; exact mj_none
  | succ n ih =>
    intro x1 x2 x3 x4 M
    rw [F_W_shares_b29]
    refine mj_iload (pc := 29) (i := 4) rfl dd_W_shares_29 ?_
    refine mj_aload_n (pc := 31) (i := 0) rfl dd_W_shares_31 ?_
    refine mj_getR (pc := 32) (b := 0) (k := 4) qf_W_42 sh_0 cl_11 rfl (by decide) (r := 13) rfl dd_W_shares_32 ?_
    refine mj_getI (pc := 35) (b := 13) (k := 1) qf_W_250 sh_13 cl_0 rfl (by decide) rfl dd_W_shares_35 ?_
    refine mj_icmp_ge (pc := 38) (tgt := 60) dd_W_shares_38 rfl (fun h5 => ?_) (fun h5 => ?_)
    · refine mj_iload_n (pc := 60) (i := 3) rfl dd_W_shares_60 ?_
      refine mj_if_le (pc := 61) (tgt := 80) dd_W_shares_61 rfl (fun h6 => ?_) (fun h6 => ?_)
      · refine mj_iconst (pc := 80) (v := (0 : Int32)) (by decide) dd_W_shares_80 ?_
        exact mj_iret dd_W_shares_81 rfl rfl
      · refine mj_iload_n (pc := 64) (i := 2) rfl dd_W_shares_64 ?_
        refine mj_aload_n (pc := 65) (i := 0) rfl dd_W_shares_65 ?_
        refine mj_getR (pc := 66) (b := 0) (k := 4) qf_W_42 sh_0 cl_11 rfl (by decide) (r := 13) rfl dd_W_shares_66 ?_
        refine mj_getR (pc := 69) (b := 13) (k := 9) qf_W_169 sh_13 cl_0 rfl (by decide) (r := 17) rfl dd_W_shares_69 ?_
        refine mj_iload_n (pc := 72) (i := 1) rfl dd_W_shares_72 ?_
        refine mj_iald (pc := 73) sh_17 dd_W_shares_73 ?_
        refine mj_imul (pc := 74) dd_W_shares_74 ?_
        refine mj_iload_n (pc := 75) (i := 3) rfl dd_W_shares_75 ?_
        refine mj_idiv (pc := 76) dd_W_shares_76 ?_
        refine mj_goto (pc := 77) (tgt := 81) dd_W_shares_77 rfl ?_
        exact mj_iret dd_W_shares_81 rfl rfl
    · refine mj_iload_n (pc := 41) (i := 3) rfl dd_W_shares_41 ?_
      refine mj_aload_n (pc := 42) (i := 0) rfl dd_W_shares_42 ?_
      refine mj_getR (pc := 43) (b := 0) (k := 4) qf_W_42 sh_0 cl_11 rfl (by decide) (r := 13) rfl dd_W_shares_43 ?_
      refine mj_getR (pc := 46) (b := 13) (k := 9) qf_W_169 sh_13 cl_0 rfl (by decide) (r := 17) rfl dd_W_shares_46 ?_
      refine mj_iload (pc := 49) (i := 4) rfl dd_W_shares_49 ?_
      refine mj_iald (pc := 51) sh_17 dd_W_shares_51 ?_
      refine mj_iadd (pc := 52) dd_W_shares_52 ?_
      refine mj_istore_nL (pc := 53) (by decide) dd_W_shares_53 (fun v7 _ => ?_)
      refine mj_L (L' := [(3, .int v7), (0, .ref 0), (1, .int x1), (2, .int x2), (4, .int x4)]) [0, 1, 2, 3, 4] rfl ?_
      refine mj_iinc (pc := 54) (i := 4) (z := (1 : Int32)) rfl (by decide) (by decide) dd_W_shares_54 ?_
      refine mj_L (L' := [(4, .int (x4 + (1 : Int32))), (3, .int v7), (0, .ref 0), (1, .int x1), (2, .int x2)]) [0, 1, 2, 3, 4] rfl ?_
      refine mj_goto (pc := 57) (tgt := 29) dd_W_shares_57 rfl ?_
      refine mj_L (L' := [(0, .ref 0), (1, .int x1), (2, .int x2), (3, .int v7), (4, .int (x4 + (1 : Int32)))]) [2, 3, 4, 1, 0] rfl ?_
      exact ih x1 x2 v7 (x4 + (1 : Int32)) M
def F_W_shares (N : Nat) (x1 : Int32) (x2 : Int32) (M : mj_M) : Option (Int32 × mj_M) :=
    (F_Coast_hasTale x1 M).bind (fun q1 =>
     if q1.1 = (0) then
     (some ((-1 : Int32), q1.2))
     else
     (if x2 < (0) then
     (some ((-1 : Int32), q1.2))
     else
     (if x2 ≤ (999 : Int32) then
     (F_W_shares_b29 N N x1 x2 (0 : Int32) (0 : Int32) q1.2)
     else
     (some ((-1 : Int32), q1.2)))))
set_option maxRecDepth 20000 in
theorem T_W_shares {g : mj_G} (N : Nat) : ∀ d, 2 ≤ d → ∀ (x1 : Int32) (x2 : Int32) (M : mj_M), mj_Mt g (mj_qI g) d y_W_shares c_W_shares 5 (some .int) [.ref 0, .int x1, .int x2] M (F_W_shares N x1 x2 M) := by
  intro d hd x1 x2 M
  obtain ⟨e, rfl⟩ : ∃ e, d = e + 1 := ⟨d - 1, by omega⟩
  have he : 1 ≤ e := by omega
  refine mj_met (by decide +kernel) (Nat.le_of_ble_eq_true rfl) ?_
  unfold F_W_shares
  refine mj_L (L' := [(0, .ref 0), (1, .int x1), (2, .int x2)]) [0, 1, 2] rfl ?_
  refine mj_aload_n (pc := 0) (i := 0) rfl dd_W_shares_0 ?_
  refine mj_getR (pc := 1) (b := 0) (k := 4) qf_W_42 sh_0 cl_11 rfl (by decide) (r := 13) rfl dd_W_shares_1 ?_
  refine mj_iload_n (pc := 4) (i := 1) rfl dd_W_shares_4 ?_
  refine mj_callVI (pc := 5) (idx := 163) (b := 13) (As := [.int x1]) (st := []) sh_13 cl_0 ev_Coast_hasTale ql_W_163 rfl (Nat.le_of_ble_eq_true rfl) (T_Coast_hasTale (g := g) e (by omega) x1 M) dd_W_shares_5 (fun q1 hq1 => ?_)
  refine mj_if_eq (pc := 8) (tgt := 22) dd_W_shares_8 rfl (fun h2 => ?_) (fun h2 => ?_)
  · refine mj_iconst (pc := 22) (v := (-1 : Int32)) (by decide) dd_W_shares_22 ?_
    exact mj_iret dd_W_shares_23 rfl rfl
  · refine mj_iload_n (pc := 11) (i := 2) rfl dd_W_shares_11 ?_
    refine mj_if_lt (pc := 12) (tgt := 22) dd_W_shares_12 rfl (fun h3 => ?_) (fun h3 => ?_)
    · refine mj_iconst (pc := 22) (v := (-1 : Int32)) (by decide) dd_W_shares_22 ?_
      exact mj_iret dd_W_shares_23 rfl rfl
    · refine mj_iload_n (pc := 15) (i := 2) rfl dd_W_shares_15 ?_
      refine mj_sipush (pc := 16) (v := (999 : Int32)) (by decide) dd_W_shares_16 ?_
      refine mj_icmp_le (pc := 19) (tgt := 24) dd_W_shares_19 rfl (fun h4 => ?_) (fun h4 => ?_)
      · refine mj_iconst (pc := 24) (v := (0 : Int32)) (by decide) dd_W_shares_24 ?_
        refine mj_istore_n (pc := 25) (by decide) dd_W_shares_25 ?_
        refine mj_L (L' := [(3, .int (0 : Int32)), (0, .ref 0), (1, .int x1), (2, .int x2)]) [0, 1, 2, 3] rfl ?_
        refine mj_iconst (pc := 26) (v := (0 : Int32)) (by decide) dd_W_shares_26 ?_
        refine mj_istore (pc := 27) (by decide) dd_W_shares_27 ?_
        refine mj_L (L' := [(4, .int (0 : Int32)), (3, .int (0 : Int32)), (0, .ref 0), (1, .int x1), (2, .int x2)]) [0, 1, 2, 3, 4] rfl ?_
        refine mj_L (L' := [(0, .ref 0), (1, .int x1), (2, .int x2), (3, .int (0 : Int32)), (4, .int (0 : Int32))]) [2, 3, 4, 1, 0] rfl ?_
        exact T_W_shares_b29 (g := g) N e he N x1 x2 (0 : Int32) (0 : Int32) q1.2
      · refine mj_iconst (pc := 22) (v := (-1 : Int32)) (by decide) dd_W_shares_22 ?_
        exact mj_iret dd_W_shares_23 rfl rfl
def F_M_shares_b26 (N : Nat) : Nat → Int32 → Int32 → Int32 → Int32 → mj_M → Option (Int32 × mj_M)
  | 0, _, _, _, _, _ => none
  | n + 1, x1, x2, x3, x4, M =>
    if (M 48 26) ≤ x4 then
     ((F_M_ofTale x1 (0 : Int32) M).bind (fun q6 =>
     if x3 = 0 then none else
     some ((x2 * q6.1) / x3, q6.2)))
     else
     ((F_M_ofTale x4 (0 : Int32) M).bind (fun q7 =>
     mj_lt (x3 + q7.1) (fun v8 =>
     F_M_shares_b26 N n x1 x2 v8 (x4 + (1 : Int32)) q7.2)))
set_option maxRecDepth 20000 in
theorem T_M_shares_b26 {g : mj_G} (N : Nat) (e : Nat) (he : 2 ≤ e) : ∀ (n : Nat) (x1 : Int32) (x2 : Int32) (x3 : Int32) (x4 : Int32) (M : mj_M), mj_X g (mj_qI g) "WinterTellersModel" c_M_shares 5 (some .int) e 26 [(0, .ref 48), (1, .int x1), (2, .int x2), (3, .int x3), (4, .int x4)] [] M (F_M_shares_b26 N n x1 x2 x3 x4 M) := by
  intro n
  induction n with
  | zero => intro x1 x2 x3 x4 M; exact mj_none
  | succ n ih =>
    intro x1 x2 x3 x4 M
    rw [F_M_shares_b26]
    refine mj_iload (pc := 26) (i := 4) rfl dd_M_shares_26 ?_
    refine mj_aload_n (pc := 28) (i := 0) rfl dd_M_shares_28 ?_
    refine mj_getI (pc := 29) (b := 48) (k := 26) qf_M_245 sh_48 cl_12 rfl (by decide) rfl dd_M_shares_29 ?_
    refine mj_icmp_ge (pc := 32) (tgt := 51) dd_M_shares_32 rfl (fun h5 => ?_) (fun h5 => ?_)
    · refine mj_iload_n (pc := 51) (i := 2) rfl dd_M_shares_51 ?_
      refine mj_aload_n (pc := 52) (i := 0) rfl dd_M_shares_52 ?_
      refine mj_iload_n (pc := 53) (i := 1) rfl dd_M_shares_53 ?_
      refine mj_iconst (pc := 54) (v := (0 : Int32)) (by decide) dd_M_shares_54 ?_
      refine mj_callVI (pc := 55) (idx := 248) (b := 48) (As := [.int x1, .int (0 : Int32)]) (st := [.int x2]) sh_48 cl_12 ev_M_ofTale ql_M_248 rfl (Nat.le_of_ble_eq_true rfl) (T_M_ofTale (g := g) e (by omega) x1 (0 : Int32) M) dd_M_shares_55 (fun q6 hq6 => ?_)
      refine mj_imul (pc := 58) dd_M_shares_58 ?_
      refine mj_iload_n (pc := 59) (i := 3) rfl dd_M_shares_59 ?_
      refine mj_idiv (pc := 60) dd_M_shares_60 ?_
      exact mj_iret dd_M_shares_61 rfl rfl
    · refine mj_iload_n (pc := 35) (i := 3) rfl dd_M_shares_35 ?_
      refine mj_aload_n (pc := 36) (i := 0) rfl dd_M_shares_36 ?_
      refine mj_iload (pc := 37) (i := 4) rfl dd_M_shares_37 ?_
      refine mj_iconst (pc := 39) (v := (0 : Int32)) (by decide) dd_M_shares_39 ?_
      refine mj_callVI (pc := 40) (idx := 248) (b := 48) (As := [.int x4, .int (0 : Int32)]) (st := [.int x3]) sh_48 cl_12 ev_M_ofTale ql_M_248 rfl (Nat.le_of_ble_eq_true rfl) (T_M_ofTale (g := g) e (by omega) x4 (0 : Int32) M) dd_M_shares_40 (fun q7 hq7 => ?_)
      refine mj_iadd (pc := 43) dd_M_shares_43 ?_
      refine mj_istore_nL (pc := 44) (by decide) dd_M_shares_44 (fun v8 _ => ?_)
      refine mj_L (L' := [(3, .int v8), (0, .ref 48), (1, .int x1), (2, .int x2), (4, .int x4)]) [0, 1, 2, 3, 4] rfl ?_
      refine mj_iinc (pc := 45) (i := 4) (z := (1 : Int32)) rfl (by decide) (by decide) dd_M_shares_45 ?_
      refine mj_L (L' := [(4, .int (x4 + (1 : Int32))), (3, .int v8), (0, .ref 48), (1, .int x1), (2, .int x2)]) [0, 1, 2, 3, 4] rfl ?_
      refine mj_goto (pc := 48) (tgt := 26) dd_M_shares_48 rfl ?_
      refine mj_L (L' := [(0, .ref 48), (1, .int x1), (2, .int x2), (3, .int v8), (4, .int (x4 + (1 : Int32)))]) [2, 3, 4, 1, 0] rfl ?_
      exact ih x1 x2 v8 (x4 + (1 : Int32)) q7.2
def F_M_shares (N : Nat) (x1 : Int32) (x2 : Int32) (M : mj_M) : Option (Int32 × mj_M) :=
    (F_M_isTale x1 M).bind (fun q1 =>
     if q1.1 = (0) then
     (some ((-1 : Int32), q1.2))
     else
     ((F_M_in x2 (0 : Int32) (999 : Int32) q1.2).bind (fun q3 =>
     if q3.1 = (0) then
     (some ((-1 : Int32), q3.2))
     else
     (F_M_shares_b26 N N x1 x2 (0 : Int32) (0 : Int32) q3.2))))
set_option maxRecDepth 20000 in
theorem T_M_shares {g : mj_G} (N : Nat) : ∀ d, 3 ≤ d → ∀ (x1 : Int32) (x2 : Int32) (M : mj_M), mj_Mt g (mj_qI g) d y_M_shares c_M_shares 5 (some .int) [.ref 48, .int x1, .int x2] M (F_M_shares N x1 x2 M) := by
  intro d hd x1 x2 M
  obtain ⟨e, rfl⟩ : ∃ e, d = e + 1 := ⟨d - 1, by omega⟩
  have he : 2 ≤ e := by omega
  refine mj_met (by decide +kernel) (Nat.le_of_ble_eq_true rfl) ?_
  unfold F_M_shares
  refine mj_L (L' := [(0, .ref 48), (1, .int x1), (2, .int x2)]) [0, 1, 2] rfl ?_
  refine mj_aload_n (pc := 0) (i := 0) rfl dd_M_shares_0 ?_
  refine mj_iload_n (pc := 1) (i := 1) rfl dd_M_shares_1 ?_
  refine mj_callVI (pc := 2) (idx := 306) (b := 48) (As := [.int x1]) (st := []) sh_48 cl_12 ev_M_isTale ql_M_306 rfl (Nat.le_of_ble_eq_true rfl) (T_M_isTale (g := g) e (by omega) x1 M) dd_M_shares_2 (fun q1 hq1 => ?_)
  refine mj_if_eq (pc := 5) (tgt := 19) dd_M_shares_5 rfl (fun h2 => ?_) (fun h2 => ?_)
  · refine mj_iconst (pc := 19) (v := (-1 : Int32)) (by decide) dd_M_shares_19 ?_
    exact mj_iret dd_M_shares_20 rfl rfl
  · refine mj_iload_n (pc := 8) (i := 2) rfl dd_M_shares_8 ?_
    refine mj_iconst (pc := 9) (v := (0 : Int32)) (by decide) dd_M_shares_9 ?_
    refine mj_sipush (pc := 10) (v := (999 : Int32)) (by decide) dd_M_shares_10 ?_
    refine mj_callSI (pc := 13) (idx := 205) (As := [.int x2, .int (0 : Int32), .int (999 : Int32)]) (st := []) es_M_in ql_M_205 rfl (Nat.le_of_ble_eq_true rfl) (T_M_in (g := g) e (by omega) x2 (0 : Int32) (999 : Int32) q1.2) dd_M_shares_13 (fun q3 hq3 => ?_)
    refine mj_if_ne (pc := 16) (tgt := 21) dd_M_shares_16 rfl (fun h4 => ?_) (fun h4 => ?_)
    · refine mj_iconst (pc := 19) (v := (-1 : Int32)) (by decide) dd_M_shares_19 ?_
      exact mj_iret dd_M_shares_20 rfl rfl
    · refine mj_iconst (pc := 21) (v := (0 : Int32)) (by decide) dd_M_shares_21 ?_
      refine mj_istore_n (pc := 22) (by decide) dd_M_shares_22 ?_
      refine mj_L (L' := [(3, .int (0 : Int32)), (0, .ref 48), (1, .int x1), (2, .int x2)]) [0, 1, 2, 3] rfl ?_
      refine mj_iconst (pc := 23) (v := (0 : Int32)) (by decide) dd_M_shares_23 ?_
      refine mj_istore (pc := 24) (by decide) dd_M_shares_24 ?_
      refine mj_L (L' := [(4, .int (0 : Int32)), (3, .int (0 : Int32)), (0, .ref 48), (1, .int x1), (2, .int x2)]) [0, 1, 2, 3, 4] rfl ?_
      refine mj_L (L' := [(0, .ref 48), (1, .int x1), (2, .int x2), (3, .int (0 : Int32)), (4, .int (0 : Int32))]) [2, 3, 4, 1, 0] rfl ?_
      exact T_M_shares_b26 (g := g) N e he N x1 x2 (0 : Int32) (0 : Int32) q3.2
def F_W_fresh (N : Nat) (x1 : Int32) (x2 : Int32) (M : mj_M) : Option (Int32 × mj_M) :=
    (F_Coast_hasHouse x1 M).bind (fun q1 =>
     if q1.1 = (0) then
     (some ((-1 : Int32), q1.2))
     else
     (if x2 < (0) then
     (some ((-1 : Int32), q1.2))
     else
     (if x2 ≤ (1 : Int32) then
     ((F_Stand_heardBits N x1 q1.2).bind (fun q5 =>
     if x2 = (0) then
     (some ((q5.2 20 1) &&& (q5.1 ^^^ (-1 : Int32)), q5.2))
     else
     (some (q5.1 &&& ((q5.2 20 1) ^^^ (-1 : Int32)), q5.2))))
     else
     (some ((-1 : Int32), q1.2)))))
set_option maxRecDepth 20000 in
theorem T_W_fresh {g : mj_G} (N : Nat) : ∀ d, 2 ≤ d → ∀ (x1 : Int32) (x2 : Int32) (M : mj_M), mj_Mt g (mj_qI g) d y_W_fresh c_W_fresh 4 (some .int) [.ref 0, .int x1, .int x2] M (F_W_fresh N x1 x2 M) := by
  intro d hd x1 x2 M
  obtain ⟨e, rfl⟩ : ∃ e, d = e + 1 := ⟨d - 1, by omega⟩
  have he : 1 ≤ e := by omega
  refine mj_met (by decide +kernel) (Nat.le_of_ble_eq_true rfl) ?_
  unfold F_W_fresh
  refine mj_L (L' := [(0, .ref 0), (1, .int x1), (2, .int x2)]) [0, 1, 2] rfl ?_
  refine mj_aload_n (pc := 0) (i := 0) rfl dd_W_fresh_0 ?_
  refine mj_getR (pc := 1) (b := 0) (k := 4) qf_W_42 sh_0 cl_11 rfl (by decide) (r := 13) rfl dd_W_fresh_1 ?_
  refine mj_iload_n (pc := 4) (i := 1) rfl dd_W_fresh_4 ?_
  refine mj_callVI (pc := 5) (idx := 150) (b := 13) (As := [.int x1]) (st := []) sh_13 cl_0 ev_Coast_hasHouse ql_W_150 rfl (Nat.le_of_ble_eq_true rfl) (T_Coast_hasHouse (g := g) e (by omega) x1 M) dd_W_fresh_5 (fun q1 hq1 => ?_)
  refine mj_if_eq (pc := 8) (tgt := 20) dd_W_fresh_8 rfl (fun h2 => ?_) (fun h2 => ?_)
  · refine mj_iconst (pc := 20) (v := (-1 : Int32)) (by decide) dd_W_fresh_20 ?_
    exact mj_iret dd_W_fresh_21 rfl rfl
  · refine mj_iload_n (pc := 11) (i := 2) rfl dd_W_fresh_11 ?_
    refine mj_if_lt (pc := 12) (tgt := 20) dd_W_fresh_12 rfl (fun h3 => ?_) (fun h3 => ?_)
    · refine mj_iconst (pc := 20) (v := (-1 : Int32)) (by decide) dd_W_fresh_20 ?_
      exact mj_iret dd_W_fresh_21 rfl rfl
    · refine mj_iload_n (pc := 15) (i := 2) rfl dd_W_fresh_15 ?_
      refine mj_iconst (pc := 16) (v := (1 : Int32)) (by decide) dd_W_fresh_16 ?_
      refine mj_icmp_le (pc := 17) (tgt := 22) dd_W_fresh_17 rfl (fun h4 => ?_) (fun h4 => ?_)
      · refine mj_aload_n (pc := 22) (i := 0) rfl dd_W_fresh_22 ?_
        refine mj_getR (pc := 23) (b := 0) (k := 5) qf_W_49 sh_0 cl_11 rfl (by decide) (r := 20) rfl dd_W_fresh_23 ?_
        refine mj_iload_n (pc := 26) (i := 1) rfl dd_W_fresh_26 ?_
        refine mj_callVI (pc := 27) (idx := 154) (b := 20) (As := [.int x1]) (st := []) sh_20 cl_8 ev_Stand_heardBits ql_W_154 rfl (Nat.le_of_ble_eq_true rfl) (T_Stand_heardBits (g := g) N e (by omega) x1 q1.2) dd_W_fresh_27 (fun q5 hq5 => ?_)
        refine mj_istore_n (pc := 30) (by decide) dd_W_fresh_30 ?_
        refine mj_L (L' := [(3, .int q5.1), (0, .ref 0), (2, .int x2)]) [0, 1, 3] rfl ?_
        refine mj_iload_n (pc := 31) (i := 2) rfl dd_W_fresh_31 ?_
        refine mj_if_ne (pc := 32) (tgt := 49) dd_W_fresh_32 rfl (fun h6 => ?_) (fun h6 => ?_)
        · refine mj_aload_n (pc := 35) (i := 0) rfl dd_W_fresh_35 ?_
          refine mj_getR (pc := 36) (b := 0) (k := 5) qf_W_49 sh_0 cl_11 rfl (by decide) (r := 20) rfl dd_W_fresh_36 ?_
          refine mj_getI (pc := 39) (b := 20) (k := 1) qf_W_227 sh_20 cl_8 rfl (by decide) rfl dd_W_fresh_39 ?_
          refine mj_iload_n (pc := 42) (i := 3) rfl dd_W_fresh_42 ?_
          refine mj_iconst (pc := 43) (v := (-1 : Int32)) (by decide) dd_W_fresh_43 ?_
          refine mj_ixor (pc := 44) dd_W_fresh_44 ?_
          refine mj_iand (pc := 45) dd_W_fresh_45 ?_
          refine mj_goto (pc := 46) (tgt := 60) dd_W_fresh_46 rfl ?_
          exact mj_iret dd_W_fresh_60 rfl rfl
        · refine mj_iload_n (pc := 49) (i := 3) rfl dd_W_fresh_49 ?_
          refine mj_aload_n (pc := 50) (i := 0) rfl dd_W_fresh_50 ?_
          refine mj_getR (pc := 51) (b := 0) (k := 5) qf_W_49 sh_0 cl_11 rfl (by decide) (r := 20) rfl dd_W_fresh_51 ?_
          refine mj_getI (pc := 54) (b := 20) (k := 1) qf_W_227 sh_20 cl_8 rfl (by decide) rfl dd_W_fresh_54 ?_
          refine mj_iconst (pc := 57) (v := (-1 : Int32)) (by decide) dd_W_fresh_57 ?_
          refine mj_ixor (pc := 58) dd_W_fresh_58 ?_
          refine mj_iand (pc := 59) dd_W_fresh_59 ?_
          exact mj_iret dd_W_fresh_60 rfl rfl
      · refine mj_iconst (pc := 20) (v := (-1 : Int32)) (by decide) dd_W_fresh_20 ?_
        exact mj_iret dd_W_fresh_21 rfl rfl
def F_M_fresh (N : Nat) (x1 : Int32) (x2 : Int32) (M : mj_M) : Option (Int32 × mj_M) :=
    (F_M_isHouse x1 M).bind (fun q1 =>
     if q1.1 = (0) then
     (some ((-1 : Int32), q1.2))
     else
     ((F_M_in x2 (0 : Int32) (1 : Int32) q1.2).bind (fun q3 =>
     if q3.1 = (0) then
     (some ((-1 : Int32), q3.2))
     else
     (if x2 = (0) then
     ((F_M_heardSet N x1 q3.2).bind (fun q7 =>
     some ((q3.2 65 43) &&& (q7.1 ^^^ (-1 : Int32)), q7.2)))
     else
     ((F_M_heardSet N x1 q3.2).bind (fun q6 =>
     some (q6.1 &&& ((q6.2 65 43) ^^^ (-1 : Int32)), q6.2)))))))
set_option maxRecDepth 20000 in
theorem T_M_fresh {g : mj_G} (N : Nat) : ∀ d, 3 ≤ d → ∀ (x1 : Int32) (x2 : Int32) (M : mj_M), mj_Mt g (mj_qI g) d y_M_fresh c_M_fresh 3 (some .int) [.ref 48, .int x1, .int x2] M (F_M_fresh N x1 x2 M) := by
  intro d hd x1 x2 M
  obtain ⟨e, rfl⟩ : ∃ e, d = e + 1 := ⟨d - 1, by omega⟩
  have he : 2 ≤ e := by omega
  refine mj_met (by decide +kernel) (Nat.le_of_ble_eq_true rfl) ?_
  unfold F_M_fresh
  refine mj_L (L' := [(0, .ref 48), (1, .int x1), (2, .int x2)]) [0, 1, 2] rfl ?_
  refine mj_aload_n (pc := 0) (i := 0) rfl dd_M_fresh_0 ?_
  refine mj_iload_n (pc := 1) (i := 1) rfl dd_M_fresh_1 ?_
  refine mj_callVI (pc := 2) (idx := 300) (b := 48) (As := [.int x1]) (st := []) sh_48 cl_12 ev_M_isHouse ql_M_300 rfl (Nat.le_of_ble_eq_true rfl) (T_M_isHouse (g := g) e (by omega) x1 M) dd_M_fresh_2 (fun q1 hq1 => ?_)
  refine mj_if_eq (pc := 5) (tgt := 17) dd_M_fresh_5 rfl (fun h2 => ?_) (fun h2 => ?_)
  · refine mj_iconst (pc := 17) (v := (-1 : Int32)) (by decide) dd_M_fresh_17 ?_
    exact mj_iret dd_M_fresh_18 rfl rfl
  · refine mj_iload_n (pc := 8) (i := 2) rfl dd_M_fresh_8 ?_
    refine mj_iconst (pc := 9) (v := (0 : Int32)) (by decide) dd_M_fresh_9 ?_
    refine mj_iconst (pc := 10) (v := (1 : Int32)) (by decide) dd_M_fresh_10 ?_
    refine mj_callSI (pc := 11) (idx := 205) (As := [.int x2, .int (0 : Int32), .int (1 : Int32)]) (st := []) es_M_in ql_M_205 rfl (Nat.le_of_ble_eq_true rfl) (T_M_in (g := g) e (by omega) x2 (0 : Int32) (1 : Int32) q1.2) dd_M_fresh_11 (fun q3 hq3 => ?_)
    refine mj_if_ne (pc := 14) (tgt := 19) dd_M_fresh_14 rfl (fun h4 => ?_) (fun h4 => ?_)
    · refine mj_iconst (pc := 17) (v := (-1 : Int32)) (by decide) dd_M_fresh_17 ?_
      exact mj_iret dd_M_fresh_18 rfl rfl
    · refine mj_iload_n (pc := 19) (i := 2) rfl dd_M_fresh_19 ?_
      refine mj_if_ne (pc := 20) (tgt := 41) dd_M_fresh_20 rfl (fun h5 => ?_) (fun h5 => ?_)
      · refine mj_aload_n (pc := 23) (i := 0) rfl dd_M_fresh_23 ?_
        refine mj_getR (pc := 24) (b := 48) (k := 27) qf_M_58 sh_48 cl_12 rfl (by decide) (r := 65) rfl dd_M_fresh_24 ?_
        refine mj_bipush (pc := 27) (v := (43 : Int32)) (by decide) dd_M_fresh_27 ?_
        refine mj_ialdK (pc := 29) (j := 43) sh_65 (by decide) rfl dd_M_fresh_29 ?_
        refine mj_aload_n (pc := 30) (i := 0) rfl dd_M_fresh_30 ?_
        refine mj_iload_n (pc := 31) (i := 1) rfl dd_M_fresh_31 ?_
        refine mj_callVI (pc := 32) (idx := 303) (b := 48) (As := [.int x1]) (st := [.int (q3.2 65 43)]) sh_48 cl_12 ev_M_heardSet ql_M_303 rfl (Nat.le_of_ble_eq_true rfl) (T_M_heardSet (g := g) N e (by omega) x1 q3.2) dd_M_fresh_32 (fun q7 hq7 => ?_)
        refine mj_iconst (pc := 35) (v := (-1 : Int32)) (by decide) dd_M_fresh_35 ?_
        refine mj_ixor (pc := 36) dd_M_fresh_36 ?_
        refine mj_iand (pc := 37) dd_M_fresh_37 ?_
        refine mj_goto (pc := 38) (tgt := 56) dd_M_fresh_38 rfl ?_
        exact mj_iret dd_M_fresh_56 rfl rfl
      · refine mj_aload_n (pc := 41) (i := 0) rfl dd_M_fresh_41 ?_
        refine mj_iload_n (pc := 42) (i := 1) rfl dd_M_fresh_42 ?_
        refine mj_callVI (pc := 43) (idx := 303) (b := 48) (As := [.int x1]) (st := []) sh_48 cl_12 ev_M_heardSet ql_M_303 rfl (Nat.le_of_ble_eq_true rfl) (T_M_heardSet (g := g) N e (by omega) x1 q3.2) dd_M_fresh_43 (fun q6 hq6 => ?_)
        refine mj_aload_n (pc := 46) (i := 0) rfl dd_M_fresh_46 ?_
        refine mj_getR (pc := 47) (b := 48) (k := 27) qf_M_58 sh_48 cl_12 rfl (by decide) (r := 65) rfl dd_M_fresh_47 ?_
        refine mj_bipush (pc := 50) (v := (43 : Int32)) (by decide) dd_M_fresh_50 ?_
        refine mj_ialdK (pc := 52) (j := 43) sh_65 (by decide) rfl dd_M_fresh_52 ?_
        refine mj_iconst (pc := 53) (v := (-1 : Int32)) (by decide) dd_M_fresh_53 ?_
        refine mj_ixor (pc := 54) dd_M_fresh_54 ?_
        refine mj_iand (pc := 55) dd_M_fresh_55 ?_
        exact mj_iret dd_M_fresh_56 rfl rfl
