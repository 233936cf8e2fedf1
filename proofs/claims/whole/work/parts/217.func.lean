/-! ===== functions and their proofs ===== -/
def F_Guess_fits_b38 (N : Nat) (k2 : Int32 → Int32 → mj_M → Option (Int32 × mj_M)) (x1 : Int32) (x2 : Int32) (s0 : Int32) (M : mj_M) : Option (Int32 × mj_M) :=
    mj_ck x2 10 (
     if s0 = (M 32 x2.toNatClampNeg) then
     (k2 x1 (x2 + (1 : Int32)) M)
     else
     (some ((0 : Int32), M)))
set_option maxRecDepth 20000 in
theorem T_Guess_fits_b38 {g : mj_G} (N : Nat) (e : Nat) (he : 5 ≤ e) (k2 : Int32 → Int32 → mj_M → Option (Int32 × mj_M)) (hk2 : ∀ (x1 : Int32) (x2 : Int32) (M : mj_M), mj_X g (mj_qI g) "WinterTellers$Guess" c_Guess_fits 3 (some .boolean) e 2 [(0, .ref 29), (1, .int x1), (2, .int x2)] [] M (k2 x1 x2 M)) (x1 : Int32) (x2 : Int32) (s0 : Int32) (M : mj_M) : mj_X g (mj_qI g) "WinterTellers$Guess" c_Guess_fits 3 (some .boolean) e 38 [(0, .ref 29), (1, .int x1), (2, .int x2)] [.int s0] M (F_Guess_fits_b38 N k2 x1 x2 s0 M) := by
  unfold F_Guess_fits_b38
  refine mj_aload_n (pc := 38) (i := 0) rfl dd_Guess_fits_38 ?_
  refine mj_getR (pc := 39) (b := 29) (k := 5) qf_Guess_18 sh_29 cl_3 rfl (by decide) (r := 32) rfl dd_Guess_fits_39 ?_
  refine mj_iload_n (pc := 42) (i := 2) rfl dd_Guess_fits_42 ?_
  refine mj_zald (pc := 43) sh_32 dd_Guess_fits_43 ?_
  refine mj_icmp_eq (pc := 44) (tgt := 49) dd_Guess_fits_44 rfl (fun h4 => ?_) (fun h4 => ?_)
  · refine mj_iinc (pc := 49) (i := 2) (z := (1 : Int32)) rfl (by decide) (by decide) dd_Guess_fits_49 ?_
    refine mj_L (L' := [(2, .int (x2 + (1 : Int32))), (0, .ref 29), (1, .int x1)]) [0, 1, 2] rfl ?_
    refine mj_goto (pc := 52) (tgt := 2) dd_Guess_fits_52 rfl ?_
    refine mj_L (L' := [(0, .ref 29), (1, .int x1), (2, .int (x2 + (1 : Int32)))]) [1, 2, 0] rfl ?_
    exact hk2 x1 (x2 + (1 : Int32)) M
  · refine mj_iconst (pc := 47) (v := (0 : Int32)) (by decide) dd_Guess_fits_47 ?_
    exact mj_zret (by decide) dd_Guess_fits_48 rfl rfl
def F_Guess_fits_b2 (N : Nat) : Nat → Int32 → Int32 → mj_M → Option (Int32 × mj_M)
  | 0, _, _, _ => none
  | n + 1, x1, x2, M =>
    if (M 29 0) ≤ x2 then
     (some ((1 : Int32), M))
     else
     (mj_ck x2 10 (
     (F_Stays_asTold N (M 30 x2.toNatClampNeg) x1 M).bind (fun q2 =>
     mj_ck x2 10 (
     if q2.1 < (q2.2 31 x2.toNatClampNeg) then
     (F_Guess_fits_b38 N (F_Guess_fits_b2 N n) x1 x2 (0 : Int32) q2.2)
     else
     (F_Guess_fits_b38 N (F_Guess_fits_b2 N n) x1 x2 (1 : Int32) q2.2)))))
set_option maxRecDepth 20000 in
theorem T_Guess_fits_b2 {g : mj_G} (N : Nat) (e : Nat) (he : 5 ≤ e) : ∀ (n : Nat) (x1 : Int32) (x2 : Int32) (M : mj_M), mj_X g (mj_qI g) "WinterTellers$Guess" c_Guess_fits 3 (some .boolean) e 2 [(0, .ref 29), (1, .int x1), (2, .int x2)] [] M (F_Guess_fits_b2 N n x1 x2 M) := by
  intro n
  induction n with
  | zero => intro x1 x2 M; exact mj_none
  | succ n ih =>
    intro x1 x2 M
    rw [F_Guess_fits_b2]
    refine mj_iload_n (pc := 2) (i := 2) rfl dd_Guess_fits_2 ?_
    refine mj_aload_n (pc := 3) (i := 0) rfl dd_Guess_fits_3 ?_
    refine mj_getI (pc := 4) (b := 29) (k := 0) qf_Guess_30 sh_29 cl_3 rfl (by decide) rfl dd_Guess_fits_4 ?_
    refine mj_icmp_ge (pc := 7) (tgt := 55) dd_Guess_fits_7 rfl (fun h1 => ?_) (fun h1 => ?_)
    · refine mj_iconst (pc := 55) (v := (1 : Int32)) (by decide) dd_Guess_fits_55 ?_
      exact mj_zret (by decide) dd_Guess_fits_56 rfl rfl
    · refine mj_aload_n (pc := 10) (i := 0) rfl dd_Guess_fits_10 ?_
      refine mj_getR (pc := 11) (b := 29) (k := 2) qf_Guess_26 sh_29 cl_3 rfl (by decide) (r := 28) rfl dd_Guess_fits_11 ?_
      refine mj_aload_n (pc := 14) (i := 0) rfl dd_Guess_fits_14 ?_
      refine mj_getR (pc := 15) (b := 29) (k := 3) qf_Guess_11 sh_29 cl_3 rfl (by decide) (r := 30) rfl dd_Guess_fits_15 ?_
      refine mj_iload_n (pc := 18) (i := 2) rfl dd_Guess_fits_18 ?_
      refine mj_iald (pc := 19) sh_30 dd_Guess_fits_19 ?_
      refine mj_iload_n (pc := 20) (i := 1) rfl dd_Guess_fits_20 ?_
      refine mj_callVI (pc := 21) (idx := 43) (b := 28) (As := [.int (M 30 x2.toNatClampNeg), .int x1]) (st := []) sh_28 cl_9 ev_Stays_asTold ql_Guess_43 rfl (Nat.le_of_ble_eq_true rfl) (T_Stays_asTold (g := g) N e (by omega) (M 30 x2.toNatClampNeg) x1 M) dd_Guess_fits_21 (fun q2 hq2 => ?_)
      refine mj_aload_n (pc := 24) (i := 0) rfl dd_Guess_fits_24 ?_
      refine mj_getR (pc := 25) (b := 29) (k := 4) qf_Guess_15 sh_29 cl_3 rfl (by decide) (r := 31) rfl dd_Guess_fits_25 ?_
      refine mj_iload_n (pc := 28) (i := 2) rfl dd_Guess_fits_28 ?_
      refine mj_iald (pc := 29) sh_31 dd_Guess_fits_29 ?_
      refine mj_icmp_lt (pc := 30) (tgt := 37) dd_Guess_fits_30 rfl (fun h3 => ?_) (fun h3 => ?_)
      · refine mj_iconst (pc := 37) (v := (0 : Int32)) (by decide) dd_Guess_fits_37 ?_
        refine mj_L (L' := [(0, .ref 29), (1, .int x1), (2, .int x2)]) [0, 1, 2] rfl ?_
        exact T_Guess_fits_b38 (g := g) N e he (F_Guess_fits_b2 N n) ih x1 x2 (0 : Int32) q2.2
      · refine mj_iconst (pc := 33) (v := (1 : Int32)) (by decide) dd_Guess_fits_33 ?_
        refine mj_goto (pc := 34) (tgt := 38) dd_Guess_fits_34 rfl ?_
        refine mj_L (L' := [(0, .ref 29), (1, .int x1), (2, .int x2)]) [0, 1, 2] rfl ?_
        exact T_Guess_fits_b38 (g := g) N e he (F_Guess_fits_b2 N n) ih x1 x2 (1 : Int32) q2.2
def F_Guess_fits (N : Nat) (x1 : Int32) (M : mj_M) : Option (Int32 × mj_M) :=
    F_Guess_fits_b2 N N x1 (0 : Int32) M
set_option maxRecDepth 20000 in
theorem T_Guess_fits {g : mj_G} (N : Nat) : ∀ d, 6 ≤ d → ∀ (x1 : Int32) (M : mj_M), mj_Mt g (mj_qI g) d y_Guess_fits c_Guess_fits 3 (some .boolean) [.ref 29, .int x1] M (F_Guess_fits N x1 M) := by
  intro d hd x1 M
  obtain ⟨e, rfl⟩ : ∃ e, d = e + 1 := ⟨d - 1, by omega⟩
  have he : 5 ≤ e := by omega
  refine mj_met (by decide +kernel) (Nat.le_of_ble_eq_true rfl) ?_
  unfold F_Guess_fits
  refine mj_L (L' := [(0, .ref 29), (1, .int x1)]) [0, 1] rfl ?_
  refine mj_iconst (pc := 0) (v := (0 : Int32)) (by decide) dd_Guess_fits_0 ?_
  refine mj_istore_n (pc := 1) (by decide) dd_Guess_fits_1 ?_
  refine mj_L (L' := [(2, .int (0 : Int32)), (0, .ref 29), (1, .int x1)]) [0, 1, 2] rfl ?_
  refine mj_L (L' := [(0, .ref 29), (1, .int x1), (2, .int (0 : Int32))]) [1, 2, 0] rfl ?_
  exact T_Guess_fits_b2 (g := g) N e he N x1 (0 : Int32) M
def F_Guess_fitting_b4 (N : Nat) : Nat → Int32 → Int32 → mj_M → Option (Int32 × mj_M)
  | 0, _, _, _ => none
  | n + 1, x1, x2, M =>
    if (M 13 1) ≤ x2 then
     (some (x1, M))
     else
     ((F_Guess_fits N x2 M).bind (fun q2 =>
     if q2.1 = (0) then
     (F_Guess_fitting_b4 N n x1 (x2 + (1 : Int32)) q2.2)
     else
     (mj_lt (x1 ||| ((1 : Int32) <<< (x2 &&& 31))) (fun v4 =>
     F_Guess_fitting_b4 N n v4 (x2 + (1 : Int32)) q2.2))))
set_option maxRecDepth 20000 in
theorem T_Guess_fitting_b4 {g : mj_G} (N : Nat) (e : Nat) (he : 6 ≤ e) : ∀ (n : Nat) (x1 : Int32) (x2 : Int32) (M : mj_M), mj_X g (mj_qI g) "WinterTellers$Guess" c_Guess_fitting 3 (some .int) e 4 [(0, .ref 29), (1, .int x1), (2, .int x2)] [] M (F_Guess_fitting_b4 N n x1 x2 M) := by
  intro n
  induction n with
  | zero => intro x1 x2 M; exact mj_none
  | succ n ih =>
    intro x1 x2 M
    rw [F_Guess_fitting_b4]
    refine mj_iload_n (pc := 4) (i := 2) rfl dd_Guess_fitting_4 ?_
    refine mj_aload_n (pc := 5) (i := 0) rfl dd_Guess_fitting_5 ?_
    refine mj_getR (pc := 6) (b := 29) (k := 1) qf_Guess_22 sh_29 cl_3 rfl (by decide) (r := 13) rfl dd_Guess_fitting_6 ?_
    refine mj_getI (pc := 9) (b := 13) (k := 1) qf_Guess_34 sh_13 cl_0 rfl (by decide) rfl dd_Guess_fitting_9 ?_
    refine mj_icmp_ge (pc := 12) (tgt := 35) dd_Guess_fitting_12 rfl (fun h1 => ?_) (fun h1 => ?_)
    · refine mj_iload_n (pc := 35) (i := 1) rfl dd_Guess_fitting_35 ?_
      exact mj_iret dd_Guess_fitting_36 rfl rfl
    · refine mj_aload_n (pc := 15) (i := 0) rfl dd_Guess_fitting_15 ?_
      refine mj_iload_n (pc := 16) (i := 2) rfl dd_Guess_fitting_16 ?_
      refine mj_callVI (pc := 17) (idx := 39) (b := 29) (As := [.int x2]) (st := []) sh_29 cl_3 ev_Guess_fits ql_Guess_39 rfl (Nat.le_of_ble_eq_true rfl) (T_Guess_fits (g := g) N e (by omega) x2 M) dd_Guess_fitting_17 (fun q2 hq2 => ?_)
      refine mj_if_eq (pc := 20) (tgt := 29) dd_Guess_fitting_20 rfl (fun h3 => ?_) (fun h3 => ?_)
      · refine mj_iinc (pc := 29) (i := 2) (z := (1 : Int32)) rfl (by decide) (by decide) dd_Guess_fitting_29 ?_
        refine mj_L (L' := [(2, .int (x2 + (1 : Int32))), (0, .ref 29), (1, .int x1)]) [0, 1, 2] rfl ?_
        refine mj_goto (pc := 32) (tgt := 4) dd_Guess_fitting_32 rfl ?_
        refine mj_L (L' := [(0, .ref 29), (1, .int x1), (2, .int (x2 + (1 : Int32)))]) [1, 2, 0] rfl ?_
        exact ih x1 (x2 + (1 : Int32)) q2.2
      · refine mj_iload_n (pc := 23) (i := 1) rfl dd_Guess_fitting_23 ?_
        refine mj_iconst (pc := 24) (v := (1 : Int32)) (by decide) dd_Guess_fitting_24 ?_
        refine mj_iload_n (pc := 25) (i := 2) rfl dd_Guess_fitting_25 ?_
        refine mj_ishl (pc := 26) dd_Guess_fitting_26 ?_
        refine mj_ior (pc := 27) dd_Guess_fitting_27 ?_
        refine mj_istore_nL (pc := 28) (by decide) dd_Guess_fitting_28 (fun v4 _ => ?_)
        refine mj_L (L' := [(1, .int v4), (0, .ref 29), (2, .int x2)]) [0, 1, 2] rfl ?_
        refine mj_iinc (pc := 29) (i := 2) (z := (1 : Int32)) rfl (by decide) (by decide) dd_Guess_fitting_29 ?_
        refine mj_L (L' := [(2, .int (x2 + (1 : Int32))), (1, .int v4), (0, .ref 29)]) [0, 1, 2] rfl ?_
        refine mj_goto (pc := 32) (tgt := 4) dd_Guess_fitting_32 rfl ?_
        refine mj_L (L' := [(0, .ref 29), (1, .int v4), (2, .int (x2 + (1 : Int32)))]) [2, 1, 0] rfl ?_
        exact ih v4 (x2 + (1 : Int32)) q2.2
def F_Guess_fitting (N : Nat) (M : mj_M) : Option (Int32 × mj_M) :=
    F_Guess_fitting_b4 N N (0 : Int32) (0 : Int32) M
set_option maxRecDepth 20000 in
theorem T_Guess_fitting {g : mj_G} (N : Nat) : ∀ d, 7 ≤ d → ∀ (M : mj_M), mj_Mt g (mj_qI g) d y_Guess_fitting c_Guess_fitting 3 (some .int) [.ref 29] M (F_Guess_fitting N M) := by
  intro d hd M
  obtain ⟨e, rfl⟩ : ∃ e, d = e + 1 := ⟨d - 1, by omega⟩
  have he : 6 ≤ e := by omega
  refine mj_met (by decide +kernel) (Nat.le_of_ble_eq_true rfl) ?_
  unfold F_Guess_fitting
  refine mj_L (L' := [(0, .ref 29)]) [0] rfl ?_
  refine mj_iconst (pc := 0) (v := (0 : Int32)) (by decide) dd_Guess_fitting_0 ?_
  refine mj_istore_n (pc := 1) (by decide) dd_Guess_fitting_1 ?_
  refine mj_L (L' := [(1, .int (0 : Int32)), (0, .ref 29)]) [0, 1] rfl ?_
  refine mj_iconst (pc := 2) (v := (0 : Int32)) (by decide) dd_Guess_fitting_2 ?_
  refine mj_istore_n (pc := 3) (by decide) dd_Guess_fitting_3 ?_
  refine mj_L (L' := [(2, .int (0 : Int32)), (1, .int (0 : Int32)), (0, .ref 29)]) [0, 1, 2] rfl ?_
  refine mj_L (L' := [(0, .ref 29), (1, .int (0 : Int32)), (2, .int (0 : Int32))]) [2, 1, 0] rfl ?_
  exact T_Guess_fitting_b4 (g := g) N e he N (0 : Int32) (0 : Int32) M
def F_Guess_bitAt_b4 (N : Nat) : Nat → Int32 → Int32 → Int32 → mj_M → Option (Int32 × mj_M)
  | 0, _, _, _, _ => none
  | n + 1, x0, x2, x3, M =>
    if (6 : Int32) ≤ x3 then
     (some ((-1 : Int32), M))
     else
     (if ((x0 >>> (x3 &&& 31)) &&& (1 : Int32)) = (0) then
     (F_Guess_bitAt_b4 N n x0 x2 (x3 + (1 : Int32)) M)
     else
     (if x2 = (0) then
     (some (x3, M))
     else
     (F_Guess_bitAt_b4 N n x0 (x2 + (-1 : Int32)) (x3 + (1 : Int32)) M)))
set_option maxRecDepth 20000 in
theorem T_Guess_bitAt_b4 {g : mj_G} (N : Nat) (e : Nat) (he : 0 ≤ e) : ∀ (n : Nat) (x0 : Int32) (x2 : Int32) (x3 : Int32) (M : mj_M), mj_X g (mj_qI g) "WinterTellers$Guess" c_Guess_bitAt 4 (some .int) e 4 [(0, .int x0), (2, .int x2), (3, .int x3)] [] M (F_Guess_bitAt_b4 N n x0 x2 x3 M) := by
  intro n
  induction n with
  | zero => intro x0 x2 x3 M; exact mj_none
  | succ n ih =>
    intro x0 x2 x3 M
    rw [F_Guess_bitAt_b4]
    refine mj_iload_n (pc := 4) (i := 3) rfl dd_Guess_bitAt_4 ?_
    refine mj_bipush (pc := 5) (v := (6 : Int32)) (by decide) dd_Guess_bitAt_5 ?_
    refine mj_icmp_ge (pc := 7) (tgt := 33) dd_Guess_bitAt_7 rfl (fun h1 => ?_) (fun h1 => ?_)
    · refine mj_iconst (pc := 33) (v := (-1 : Int32)) (by decide) dd_Guess_bitAt_33 ?_
      exact mj_iret dd_Guess_bitAt_34 rfl rfl
    · refine mj_iload_n (pc := 10) (i := 0) rfl dd_Guess_bitAt_10 ?_
      refine mj_iload_n (pc := 11) (i := 3) rfl dd_Guess_bitAt_11 ?_
      refine mj_ishr (pc := 12) dd_Guess_bitAt_12 ?_
      refine mj_iconst (pc := 13) (v := (1 : Int32)) (by decide) dd_Guess_bitAt_13 ?_
      refine mj_iand (pc := 14) dd_Guess_bitAt_14 ?_
      refine mj_if_eq (pc := 15) (tgt := 27) dd_Guess_bitAt_15 rfl (fun h2 => ?_) (fun h2 => ?_)
      · refine mj_iinc (pc := 27) (i := 3) (z := (1 : Int32)) rfl (by decide) (by decide) dd_Guess_bitAt_27 ?_
        refine mj_L (L' := [(3, .int (x3 + (1 : Int32))), (0, .int x0), (2, .int x2)]) [0, 1, 2] rfl ?_
        refine mj_goto (pc := 30) (tgt := 4) dd_Guess_bitAt_30 rfl ?_
        refine mj_L (L' := [(0, .int x0), (2, .int x2), (3, .int (x3 + (1 : Int32)))]) [1, 2, 0] rfl ?_
        exact ih x0 x2 (x3 + (1 : Int32)) M
      · refine mj_iload_n (pc := 18) (i := 2) rfl dd_Guess_bitAt_18 ?_
        refine mj_if_ne (pc := 19) (tgt := 24) dd_Guess_bitAt_19 rfl (fun h3 => ?_) (fun h3 => ?_)
        · refine mj_iload_n (pc := 22) (i := 3) rfl dd_Guess_bitAt_22 ?_
          exact mj_iret dd_Guess_bitAt_23 rfl rfl
        · refine mj_iinc (pc := 24) (i := 2) (z := (-1 : Int32)) rfl (by decide) (by decide) dd_Guess_bitAt_24 ?_
          refine mj_L (L' := [(2, .int (x2 + (-1 : Int32))), (0, .int x0), (3, .int x3)]) [0, 1, 2] rfl ?_
          refine mj_iinc (pc := 27) (i := 3) (z := (1 : Int32)) rfl (by decide) (by decide) dd_Guess_bitAt_27 ?_
          refine mj_L (L' := [(3, .int (x3 + (1 : Int32))), (2, .int (x2 + (-1 : Int32))), (0, .int x0)]) [0, 1, 2] rfl ?_
          refine mj_goto (pc := 30) (tgt := 4) dd_Guess_bitAt_30 rfl ?_
          refine mj_L (L' := [(0, .int x0), (2, .int (x2 + (-1 : Int32))), (3, .int (x3 + (1 : Int32)))]) [2, 1, 0] rfl ?_
          exact ih x0 (x2 + (-1 : Int32)) (x3 + (1 : Int32)) M
def F_Guess_bitAt (N : Nat) (x0 : Int32) (x1 : Int32) (M : mj_M) : Option (Int32 × mj_M) :=
    F_Guess_bitAt_b4 N N x0 x1 (0 : Int32) M
set_option maxRecDepth 20000 in
theorem T_Guess_bitAt {g : mj_G} (N : Nat) : ∀ d, 1 ≤ d → ∀ (x0 : Int32) (x1 : Int32) (M : mj_M), mj_Mt g (mj_qI g) d y_Guess_bitAt c_Guess_bitAt 4 (some .int) [.int x0, .int x1] M (F_Guess_bitAt N x0 x1 M) := by
  intro d hd x0 x1 M
  obtain ⟨e, rfl⟩ : ∃ e, d = e + 1 := ⟨d - 1, by omega⟩
  have he : 0 ≤ e := by omega
  refine mj_met (by decide +kernel) (Nat.le_of_ble_eq_true rfl) ?_
  unfold F_Guess_bitAt
  refine mj_L (L' := [(0, .int x0), (1, .int x1)]) [0, 1] rfl ?_
  refine mj_iload_n (pc := 0) (i := 1) rfl dd_Guess_bitAt_0 ?_
  refine mj_istore_n (pc := 1) (by decide) dd_Guess_bitAt_1 ?_
  refine mj_L (L' := [(2, .int x1), (0, .int x0)]) [0, 1] rfl ?_
  refine mj_iconst (pc := 2) (v := (0 : Int32)) (by decide) dd_Guess_bitAt_2 ?_
  refine mj_istore_n (pc := 3) (by decide) dd_Guess_bitAt_3 ?_
  refine mj_L (L' := [(3, .int (0 : Int32)), (2, .int x1), (0, .int x0)]) [0, 1, 2] rfl ?_
  refine mj_L (L' := [(0, .int x0), (2, .int x1), (3, .int (0 : Int32))]) [2, 1, 0] rfl ?_
  exact T_Guess_bitAt_b4 (g := g) N e he N x0 x1 (0 : Int32) M
def F_W_told (N : Nat) (x1 : Int32) (M : mj_M) : Option (Int32 × mj_M) :=
    (F_Coast_isTold M).bind (fun q1 =>
     if q1.1 = (0) then
     (some ((-1 : Int32), q1.2))
     else
     ((F_Guess_fitting N q1.2).bind (fun q3 =>
     if x1 = (-1 : Int32) then
     ((F_Integer_bitCount q3.1 q3.2).bind (fun q6 =>
     some (q6.1, q6.2)))
     else
     ((F_Guess_bitAt N q3.1 x1 q3.2).bind (fun q5 =>
     some (q5.1, q5.2))))))
set_option maxRecDepth 20000 in
theorem T_W_told {g : mj_G} (N : Nat) : ∀ d, 8 ≤ d → ∀ (x1 : Int32) (M : mj_M), mj_Mt g (mj_qI g) d y_W_told c_W_told 3 (some .int) [.ref 0, .int x1] M (F_W_told N x1 M) := by
  intro d hd x1 M
  obtain ⟨e, rfl⟩ : ∃ e, d = e + 1 := ⟨d - 1, by omega⟩
  have he : 7 ≤ e := by omega
  refine mj_met (by decide +kernel) (Nat.le_of_ble_eq_true rfl) ?_
  unfold F_W_told
  refine mj_L (L' := [(0, .ref 0), (1, .int x1)]) [0, 1] rfl ?_
  refine mj_aload_n (pc := 0) (i := 0) rfl dd_W_told_0 ?_
  refine mj_getR (pc := 1) (b := 0) (k := 4) qf_W_42 sh_0 cl_11 rfl (by decide) (r := 13) rfl dd_W_told_1 ?_
  refine mj_callVI (pc := 4) (idx := 235) (b := 13) (As := []) (st := []) sh_13 cl_0 ev_Coast_isTold ql_W_235 rfl (Nat.le_of_ble_eq_true rfl) (T_Coast_isTold (g := g) e (by omega) M) dd_W_told_4 (fun q1 hq1 => ?_)
  refine mj_if_ne (pc := 7) (tgt := 12) dd_W_told_7 rfl (fun h2 => ?_) (fun h2 => ?_)
  · refine mj_iconst (pc := 10) (v := (-1 : Int32)) (by decide) dd_W_told_10 ?_
    exact mj_iret dd_W_told_11 rfl rfl
  · refine mj_aload_n (pc := 12) (i := 0) rfl dd_W_told_12 ?_
    refine mj_getR (pc := 13) (b := 0) (k := 8) qf_W_74 sh_0 cl_11 rfl (by decide) (r := 29) rfl dd_W_told_13 ?_
    refine mj_callVI (pc := 16) (idx := 305) (b := 29) (As := []) (st := []) sh_29 cl_3 ev_Guess_fitting ql_W_305 rfl (Nat.le_of_ble_eq_true rfl) (T_Guess_fitting (g := g) N e (by omega) q1.2) dd_W_told_16 (fun q3 hq3 => ?_)
    refine mj_istore_n (pc := 19) (by decide) dd_W_told_19 ?_
    refine mj_L (L' := [(2, .int q3.1), (1, .int x1)]) [0, 2] rfl ?_
    refine mj_iload_n (pc := 20) (i := 1) rfl dd_W_told_20 ?_
    refine mj_iconst (pc := 21) (v := (-1 : Int32)) (by decide) dd_W_told_21 ?_
    refine mj_icmp_ne (pc := 22) (tgt := 32) dd_W_told_22 rfl (fun h4 => ?_) (fun h4 => ?_)
    · refine mj_iload_n (pc := 25) (i := 2) rfl dd_W_told_25 ?_
      refine mj_callSI (pc := 26) (idx := 230) (As := [.int q3.1]) (st := []) es_Integer_bitCount ql_W_230 rfl (Nat.le_of_ble_eq_true rfl) (T_Integer_bitCount (g := g) e (by omega) q3.1 q3.2) dd_W_told_26 (fun q6 hq6 => ?_)
      refine mj_goto (pc := 29) (tgt := 37) dd_W_told_29 rfl ?_
      exact mj_iret dd_W_told_37 rfl rfl
    · refine mj_iload_n (pc := 32) (i := 2) rfl dd_W_told_32 ?_
      refine mj_iload_n (pc := 33) (i := 1) rfl dd_W_told_33 ?_
      refine mj_callSI (pc := 34) (idx := 308) (As := [.int q3.1, .int x1]) (st := []) es_Guess_bitAt ql_W_308 rfl (Nat.le_of_ble_eq_true rfl) (T_Guess_bitAt (g := g) N e (by omega) q3.1 x1 q3.2) dd_W_told_34 (fun q5 hq5 => ?_)
      exact mj_iret dd_W_told_37 rfl rfl
def F_M_toldNights (N : Nat) (x1 : Int32) (x2 : Int32) (M : mj_M) : Option (Int32 × mj_M) :=
    (F_M_ofTale x2 (1 : Int32) M).bind (fun q1 =>
     (F_M_ofHouse x1 (0 : Int32) q1.2).bind (fun q2 =>
     (F_M_nightsBy N x1 x2 q1.1 ((q2.1 >>> (x2 &&& 31)) &&& (1 : Int32)) q2.2).bind (fun q3 =>
     some (q3.1, q3.2))))
set_option maxRecDepth 20000 in
theorem T_M_toldNights {g : mj_G} (N : Nat) : ∀ d, 6 ≤ d → ∀ (x1 : Int32) (x2 : Int32) (M : mj_M), mj_Mt g (mj_qI g) d y_M_toldNights c_M_toldNights 3 (some .int) [.ref 48, .int x1, .int x2] M (F_M_toldNights N x1 x2 M) := by
  intro d hd x1 x2 M
  obtain ⟨e, rfl⟩ : ∃ e, d = e + 1 := ⟨d - 1, by omega⟩
  have he : 5 ≤ e := by omega
  refine mj_met (by decide +kernel) (Nat.le_of_ble_eq_true rfl) ?_
  unfold F_M_toldNights
  refine mj_L (L' := [(0, .ref 48), (1, .int x1), (2, .int x2)]) [0, 1, 2] rfl ?_
  refine mj_aload_n (pc := 0) (i := 0) rfl dd_M_toldNights_0 ?_
  refine mj_iload_n (pc := 1) (i := 1) rfl dd_M_toldNights_1 ?_
  refine mj_iload_n (pc := 2) (i := 2) rfl dd_M_toldNights_2 ?_
  refine mj_aload_n (pc := 3) (i := 0) rfl dd_M_toldNights_3 ?_
  refine mj_iload_n (pc := 4) (i := 2) rfl dd_M_toldNights_4 ?_
  refine mj_iconst (pc := 5) (v := (1 : Int32)) (by decide) dd_M_toldNights_5 ?_
  refine mj_callVI (pc := 6) (idx := 248) (b := 48) (As := [.int x2, .int (1 : Int32)]) (st := [.int x2, .int x1, .ref 48]) sh_48 cl_12 ev_M_ofTale ql_M_248 rfl (Nat.le_of_ble_eq_true rfl) (T_M_ofTale (g := g) e (by omega) x2 (1 : Int32) M) dd_M_toldNights_6 (fun q1 hq1 => ?_)
  refine mj_aload_n (pc := 9) (i := 0) rfl dd_M_toldNights_9 ?_
  refine mj_iload_n (pc := 10) (i := 1) rfl dd_M_toldNights_10 ?_
  refine mj_iconst (pc := 11) (v := (0 : Int32)) (by decide) dd_M_toldNights_11 ?_
  refine mj_callVI (pc := 12) (idx := 251) (b := 48) (As := [.int x1, .int (0 : Int32)]) (st := [.int q1.1, .int x2, .int x1, .ref 48]) sh_48 cl_12 ev_M_ofHouse ql_M_251 rfl (Nat.le_of_ble_eq_true rfl) (T_M_ofHouse (g := g) e (by omega) x1 (0 : Int32) q1.2) dd_M_toldNights_12 (fun q2 hq2 => ?_)
  refine mj_iload_n (pc := 15) (i := 2) rfl dd_M_toldNights_15 ?_
  refine mj_ishr (pc := 16) dd_M_toldNights_16 ?_
  refine mj_iconst (pc := 17) (v := (1 : Int32)) (by decide) dd_M_toldNights_17 ?_
  refine mj_iand (pc := 18) dd_M_toldNights_18 ?_
  refine mj_callVI (pc := 19) (idx := 280) (b := 48) (As := [.int x1, .int x2, .int q1.1, .int ((q2.1 >>> (x2 &&& 31)) &&& (1 : Int32))]) (st := []) sh_48 cl_12 ev_M_nightsBy ql_M_280 rfl (Nat.le_of_ble_eq_true rfl) (T_M_nightsBy (g := g) N e (by omega) x1 x2 q1.1 ((q2.1 >>> (x2 &&& 31)) &&& (1 : Int32)) q2.2) dd_M_toldNights_19 (fun q3 hq3 => ?_)
  exact mj_iret dd_M_toldNights_22 rfl rfl
def F_M_isTold_b35 (N : Nat) (k2 : Int32 → Int32 → mj_M → Option (Int32 × mj_M)) (x1 : Int32) (x2 : Int32) (s0 : Int32) (M : mj_M) : Option (Int32 × mj_M) :=
    mj_ck x2 10 (
     if s0 = (M 71 x2.toNatClampNeg) then
     (k2 x1 (x2 + (1 : Int32)) M)
     else
     (some ((0 : Int32), M)))
set_option maxRecDepth 20000 in
theorem T_M_isTold_b35 {g : mj_G} (N : Nat) (e : Nat) (he : 6 ≤ e) (k2 : Int32 → Int32 → mj_M → Option (Int32 × mj_M)) (hk2 : ∀ (x1 : Int32) (x2 : Int32) (M : mj_M), mj_X g (mj_qI g) "WinterTellersModel" c_M_isTold 3 (some .boolean) e 2 [(0, .ref 48), (1, .int x1), (2, .int x2)] [] M (k2 x1 x2 M)) (x1 : Int32) (x2 : Int32) (s0 : Int32) (M : mj_M) : mj_X g (mj_qI g) "WinterTellersModel" c_M_isTold 3 (some .boolean) e 35 [(0, .ref 48), (1, .int x1), (2, .int x2)] [.int s0] M (F_M_isTold_b35 N k2 x1 x2 s0 M) := by
  unfold F_M_isTold_b35
  refine mj_aload_n (pc := 35) (i := 0) rfl dd_M_isTold_35 ?_
  refine mj_getR (pc := 36) (b := 48) (k := 39) qf_M_83 sh_48 cl_12 rfl (by decide) (r := 71) rfl dd_M_isTold_36 ?_
  refine mj_iload_n (pc := 39) (i := 2) rfl dd_M_isTold_39 ?_
  refine mj_zald (pc := 40) sh_71 dd_M_isTold_40 ?_
  refine mj_icmp_eq (pc := 41) (tgt := 46) dd_M_isTold_41 rfl (fun h4 => ?_) (fun h4 => ?_)
  · refine mj_iinc (pc := 46) (i := 2) (z := (1 : Int32)) rfl (by decide) (by decide) dd_M_isTold_46 ?_
    refine mj_L (L' := [(2, .int (x2 + (1 : Int32))), (0, .ref 48), (1, .int x1)]) [0, 1, 2] rfl ?_
    refine mj_goto (pc := 49) (tgt := 2) dd_M_isTold_49 rfl ?_
    refine mj_L (L' := [(0, .ref 48), (1, .int x1), (2, .int (x2 + (1 : Int32)))]) [1, 2, 0] rfl ?_
    exact hk2 x1 (x2 + (1 : Int32)) M
  · refine mj_iconst (pc := 44) (v := (0 : Int32)) (by decide) dd_M_isTold_44 ?_
    exact mj_zret (by decide) dd_M_isTold_45 rfl rfl
def F_M_isTold_b2 (N : Nat) : Nat → Int32 → Int32 → mj_M → Option (Int32 × mj_M)
  | 0, _, _, _ => none
  | n + 1, x1, x2, M =>
    if (M 48 40) ≤ x2 then
     (some ((1 : Int32), M))
     else
     (mj_ck x2 10 (
     (F_M_toldNights N (M 69 x2.toNatClampNeg) x1 M).bind (fun q2 =>
     mj_ck x2 10 (
     if q2.1 < (q2.2 70 x2.toNatClampNeg) then
     (F_M_isTold_b35 N (F_M_isTold_b2 N n) x1 x2 (0 : Int32) q2.2)
     else
     (F_M_isTold_b35 N (F_M_isTold_b2 N n) x1 x2 (1 : Int32) q2.2)))))
set_option maxRecDepth 20000 in
theorem T_M_isTold_b2 {g : mj_G} (N : Nat) (e : Nat) (he : 6 ≤ e) : ∀ (n : Nat) (x1 : Int32) (x2 : Int32) (M : mj_M), mj_X g (mj_qI g) "WinterTellersModel" c_M_isTold 3 (some .boolean) e 2 [(0, .ref 48), (1, .int x1), (2, .int x2)] [] M (F_M_isTold_b2 N n x1 x2 M) := by
  intro n
  induction n with
  | zero => intro x1 x2 M; exact mj_none
  | succ n ih =>
    intro x1 x2 M
    rw [F_M_isTold_b2]
    refine mj_iload_n (pc := 2) (i := 2) rfl dd_M_isTold_2 ?_
    refine mj_aload_n (pc := 3) (i := 0) rfl dd_M_isTold_3 ?_
    refine mj_getI (pc := 4) (b := 48) (k := 40) qf_M_254 sh_48 cl_12 rfl (by decide) rfl dd_M_isTold_4 ?_
    refine mj_icmp_ge (pc := 7) (tgt := 52) dd_M_isTold_7 rfl (fun h1 => ?_) (fun h1 => ?_)
    · refine mj_iconst (pc := 52) (v := (1 : Int32)) (by decide) dd_M_isTold_52 ?_
      exact mj_zret (by decide) dd_M_isTold_53 rfl rfl
    · refine mj_aload_n (pc := 10) (i := 0) rfl dd_M_isTold_10 ?_
      refine mj_aload_n (pc := 11) (i := 0) rfl dd_M_isTold_11 ?_
      refine mj_getR (pc := 12) (b := 48) (k := 37) qf_M_77 sh_48 cl_12 rfl (by decide) (r := 69) rfl dd_M_isTold_12 ?_
      refine mj_iload_n (pc := 15) (i := 2) rfl dd_M_isTold_15 ?_
      refine mj_iald (pc := 16) sh_69 dd_M_isTold_16 ?_
      refine mj_iload_n (pc := 17) (i := 1) rfl dd_M_isTold_17 ?_
      refine mj_callVI (pc := 18) (idx := 374) (b := 48) (As := [.int (M 69 x2.toNatClampNeg), .int x1]) (st := []) sh_48 cl_12 ev_M_toldNights ql_M_374 rfl (Nat.le_of_ble_eq_true rfl) (T_M_toldNights (g := g) N e (by omega) (M 69 x2.toNatClampNeg) x1 M) dd_M_isTold_18 (fun q2 hq2 => ?_)
      refine mj_aload_n (pc := 21) (i := 0) rfl dd_M_isTold_21 ?_
      refine mj_getR (pc := 22) (b := 48) (k := 38) qf_M_80 sh_48 cl_12 rfl (by decide) (r := 70) rfl dd_M_isTold_22 ?_
      refine mj_iload_n (pc := 25) (i := 2) rfl dd_M_isTold_25 ?_
      refine mj_iald (pc := 26) sh_70 dd_M_isTold_26 ?_
      refine mj_icmp_lt (pc := 27) (tgt := 34) dd_M_isTold_27 rfl (fun h3 => ?_) (fun h3 => ?_)
      · refine mj_iconst (pc := 34) (v := (0 : Int32)) (by decide) dd_M_isTold_34 ?_
        refine mj_L (L' := [(0, .ref 48), (1, .int x1), (2, .int x2)]) [0, 1, 2] rfl ?_
        exact T_M_isTold_b35 (g := g) N e he (F_M_isTold_b2 N n) ih x1 x2 (0 : Int32) q2.2
      · refine mj_iconst (pc := 30) (v := (1 : Int32)) (by decide) dd_M_isTold_30 ?_
        refine mj_goto (pc := 31) (tgt := 35) dd_M_isTold_31 rfl ?_
        refine mj_L (L' := [(0, .ref 48), (1, .int x1), (2, .int x2)]) [0, 1, 2] rfl ?_
        exact T_M_isTold_b35 (g := g) N e he (F_M_isTold_b2 N n) ih x1 x2 (1 : Int32) q2.2
def F_M_isTold (N : Nat) (x1 : Int32) (M : mj_M) : Option (Int32 × mj_M) :=
    F_M_isTold_b2 N N x1 (0 : Int32) M
set_option maxRecDepth 20000 in
theorem T_M_isTold {g : mj_G} (N : Nat) : ∀ d, 7 ≤ d → ∀ (x1 : Int32) (M : mj_M), mj_Mt g (mj_qI g) d y_M_isTold c_M_isTold 3 (some .boolean) [.ref 48, .int x1] M (F_M_isTold N x1 M) := by
  intro d hd x1 M
  obtain ⟨e, rfl⟩ : ∃ e, d = e + 1 := ⟨d - 1, by omega⟩
  have he : 6 ≤ e := by omega
  refine mj_met (by decide +kernel) (Nat.le_of_ble_eq_true rfl) ?_
  unfold F_M_isTold
  refine mj_L (L' := [(0, .ref 48), (1, .int x1)]) [0, 1] rfl ?_
  refine mj_iconst (pc := 0) (v := (0 : Int32)) (by decide) dd_M_isTold_0 ?_
  refine mj_istore_n (pc := 1) (by decide) dd_M_isTold_1 ?_
  refine mj_L (L' := [(2, .int (0 : Int32)), (0, .ref 48), (1, .int x1)]) [0, 1, 2] rfl ?_
  refine mj_L (L' := [(0, .ref 48), (1, .int x1), (2, .int (0 : Int32))]) [1, 2, 0] rfl ?_
  exact T_M_isTold_b2 (g := g) N e he N x1 (0 : Int32) M
def F_M_told_b18 (N : Nat) : Nat → Int32 → Int32 → Int32 → mj_M → Option (Int32 × mj_M)
  | 0, _, _, _, _ => none
  | n + 1, x1, x2, x3, M =>
    if (M 48 26) ≤ x3 then
     (if x1 = (-1 : Int32) then
     (some (x2, M))
     else
     (some ((-1 : Int32), M)))
     else
     ((F_M_isTold N x3 M).bind (fun q5 =>
     if q5.1 = (0) then
     (F_M_told_b18 N n x1 x2 (x3 + (1 : Int32)) q5.2)
     else
     (if x2 = x1 then
     (some (x3, q5.2))
     else
     (F_M_told_b18 N n x1 (x2 + (1 : Int32)) (x3 + (1 : Int32)) q5.2))))
set_option maxRecDepth 20000 in
theorem T_M_told_b18 {g : mj_G} (N : Nat) (e : Nat) (he : 7 ≤ e) : ∀ (n : Nat) (x1 : Int32) (x2 : Int32) (x3 : Int32) (M : mj_M), mj_X g (mj_qI g) "WinterTellersModel" c_M_told 4 (some .int) e 18 [(0, .ref 48), (1, .int x1), (2, .int x2), (3, .int x3)] [] M (F_M_told_b18 N n x1 x2 x3 M) := by
  intro n
  induction n with
  | zero => intro x1 x2 x3 M; exact mj_none
  | succ n ih =>
    intro x1 x2 x3 M
    rw [F_M_told_b18]
    refine mj_iload_n (pc := 18) (i := 3) rfl dd_M_told_18 ?_
    refine mj_aload_n (pc := 19) (i := 0) rfl dd_M_told_19 ?_
    refine mj_getI (pc := 20) (b := 48) (k := 26) qf_M_245 sh_48 cl_12 rfl (by decide) rfl dd_M_told_20 ?_
    refine mj_icmp_ge (pc := 23) (tgt := 50) dd_M_told_23 rfl (fun h3 => ?_) (fun h3 => ?_)
    · refine mj_iload_n (pc := 50) (i := 1) rfl dd_M_told_50 ?_
      refine mj_iconst (pc := 51) (v := (-1 : Int32)) (by decide) dd_M_told_51 ?_
      refine mj_icmp_ne (pc := 52) (tgt := 59) dd_M_told_52 rfl (fun h4 => ?_) (fun h4 => ?_)
      · refine mj_iload_n (pc := 55) (i := 2) rfl dd_M_told_55 ?_
        refine mj_goto (pc := 56) (tgt := 60) dd_M_told_56 rfl ?_
        exact mj_iret dd_M_told_60 rfl rfl
      · refine mj_iconst (pc := 59) (v := (-1 : Int32)) (by decide) dd_M_told_59 ?_
        exact mj_iret dd_M_told_60 rfl rfl
    · refine mj_aload_n (pc := 26) (i := 0) rfl dd_M_told_26 ?_
      refine mj_iload_n (pc := 27) (i := 3) rfl dd_M_told_27 ?_
      refine mj_callVI (pc := 28) (idx := 377) (b := 48) (As := [.int x3]) (st := []) sh_48 cl_12 ev_M_isTold ql_M_377 rfl (Nat.le_of_ble_eq_true rfl) (T_M_isTold (g := g) N e (by omega) x3 M) dd_M_told_28 (fun q5 hq5 => ?_)
      refine mj_if_eq (pc := 31) (tgt := 44) dd_M_told_31 rfl (fun h6 => ?_) (fun h6 => ?_)
      · refine mj_iinc (pc := 44) (i := 3) (z := (1 : Int32)) rfl (by decide) (by decide) dd_M_told_44 ?_
        refine mj_L (L' := [(3, .int (x3 + (1 : Int32))), (0, .ref 48), (1, .int x1), (2, .int x2)]) [0, 1, 2, 3] rfl ?_
        refine mj_goto (pc := 47) (tgt := 18) dd_M_told_47 rfl ?_
        refine mj_L (L' := [(0, .ref 48), (1, .int x1), (2, .int x2), (3, .int (x3 + (1 : Int32)))]) [1, 2, 3, 0] rfl ?_
        exact ih x1 x2 (x3 + (1 : Int32)) q5.2
      · refine mj_iload_n (pc := 34) (i := 2) rfl dd_M_told_34 ?_
        refine mj_iload_n (pc := 35) (i := 1) rfl dd_M_told_35 ?_
        refine mj_icmp_ne (pc := 36) (tgt := 41) dd_M_told_36 rfl (fun h7 => ?_) (fun h7 => ?_)
        · refine mj_iload_n (pc := 39) (i := 3) rfl dd_M_told_39 ?_
          exact mj_iret dd_M_told_40 rfl rfl
        · refine mj_iinc (pc := 41) (i := 2) (z := (1 : Int32)) rfl (by decide) (by decide) dd_M_told_41 ?_
          refine mj_L (L' := [(2, .int (x2 + (1 : Int32))), (0, .ref 48), (1, .int x1), (3, .int x3)]) [0, 1, 2, 3] rfl ?_
          refine mj_iinc (pc := 44) (i := 3) (z := (1 : Int32)) rfl (by decide) (by decide) dd_M_told_44 ?_
          refine mj_L (L' := [(3, .int (x3 + (1 : Int32))), (2, .int (x2 + (1 : Int32))), (0, .ref 48), (1, .int x1)]) [0, 1, 2, 3] rfl ?_
          refine mj_goto (pc := 47) (tgt := 18) dd_M_told_47 rfl ?_
          refine mj_L (L' := [(0, .ref 48), (1, .int x1), (2, .int (x2 + (1 : Int32))), (3, .int (x3 + (1 : Int32)))]) [2, 3, 1, 0] rfl ?_
          exact ih x1 (x2 + (1 : Int32)) (x3 + (1 : Int32)) q5.2
def F_M_told (N : Nat) (x1 : Int32) (M : mj_M) : Option (Int32 × mj_M) :=
    if (M 48 25) = (0) then
     (some ((-1 : Int32), M))
     else
     (if (-1 : Int32) ≤ x1 then
     (F_M_told_b18 N N x1 (0 : Int32) (0 : Int32) M)
     else
     (some ((-1 : Int32), M)))
set_option maxRecDepth 20000 in
theorem T_M_told {g : mj_G} (N : Nat) : ∀ d, 8 ≤ d → ∀ (x1 : Int32) (M : mj_M), mj_Mt g (mj_qI g) d y_M_told c_M_told 4 (some .int) [.ref 48, .int x1] M (F_M_told N x1 M) := by
  intro d hd x1 M
  obtain ⟨e, rfl⟩ : ∃ e, d = e + 1 := ⟨d - 1, by omega⟩
  have he : 7 ≤ e := by omega
  refine mj_met (by decide +kernel) (Nat.le_of_ble_eq_true rfl) ?_
  unfold F_M_told
  refine mj_L (L' := [(0, .ref 48), (1, .int x1)]) [0, 1] rfl ?_
  refine mj_aload_n (pc := 0) (i := 0) rfl dd_M_told_0 ?_
  refine mj_getI (pc := 1) (b := 48) (k := 25) qf_M_242 sh_48 cl_12 rfl (by decide) rfl dd_M_told_1 ?_
  refine mj_if_eq (pc := 4) (tgt := 12) dd_M_told_4 rfl (fun h1 => ?_) (fun h1 => ?_)
  · refine mj_iconst (pc := 12) (v := (-1 : Int32)) (by decide) dd_M_told_12 ?_
    exact mj_iret dd_M_told_13 rfl rfl
  · refine mj_iload_n (pc := 7) (i := 1) rfl dd_M_told_7 ?_
    refine mj_iconst (pc := 8) (v := (-1 : Int32)) (by decide) dd_M_told_8 ?_
    refine mj_icmp_ge (pc := 9) (tgt := 14) dd_M_told_9 rfl (fun h2 => ?_) (fun h2 => ?_)
    · refine mj_iconst (pc := 14) (v := (0 : Int32)) (by decide) dd_M_told_14 ?_
      refine mj_istore_n (pc := 15) (by decide) dd_M_told_15 ?_
      refine mj_L (L' := [(2, .int (0 : Int32)), (0, .ref 48), (1, .int x1)]) [0, 1, 2] rfl ?_
      refine mj_iconst (pc := 16) (v := (0 : Int32)) (by decide) dd_M_told_16 ?_
      refine mj_istore_n (pc := 17) (by decide) dd_M_told_17 ?_
      refine mj_L (L' := [(3, .int (0 : Int32)), (2, .int (0 : Int32)), (0, .ref 48), (1, .int x1)]) [0, 1, 2, 3] rfl ?_
      refine mj_L (L' := [(0, .ref 48), (1, .int x1), (2, .int (0 : Int32)), (3, .int (0 : Int32))]) [2, 3, 1, 0] rfl ?_
      exact T_M_told_b18 (g := g) N e he N x1 (0 : Int32) (0 : Int32) M
    · refine mj_iconst (pc := 12) (v := (-1 : Int32)) (by decide) dd_M_told_12 ?_
      exact mj_iret dd_M_told_13 rfl rfl
def F_Guess_apartIn_b6 (N : Nat) : Nat → Int32 → Int32 → Int32 → Int32 → Int32 → mj_M → Option (Int32 × mj_M)
  | 0, _, _, _, _, _, _ => none
  | n + 1, x1, x2, x3, x4, x5, M =>
    if (M 13 1) ≤ x5 then
     (some (mj_abs x4, M))
     else
     (if ((x3 >>> (x5 &&& 31)) &&& (1 : Int32)) = (0) then
     (F_Guess_apartIn_b6 N n x1 x2 x3 x4 (x5 + (1 : Int32)) M)
     else
     ((F_Stays_asTold N x1 x5 M).bind (fun q3 =>
     if q3.1 < x2 then
     (mj_lt (x4 + (-1 : Int32)) (fun v5 =>
     F_Guess_apartIn_b6 N n x1 x2 x3 v5 (x5 + (1 : Int32)) q3.2))
     else
     (mj_lt (x4 + (1 : Int32)) (fun v6 =>
     F_Guess_apartIn_b6 N n x1 x2 x3 v6 (x5 + (1 : Int32)) q3.2)))))
set_option maxRecDepth 20000 in
theorem T_Guess_apartIn_b6 {g : mj_G} (N : Nat) (e : Nat) (he : 5 ≤ e) : ∀ (n : Nat) (x1 : Int32) (x2 : Int32) (x3 : Int32) (x4 : Int32) (x5 : Int32) (M : mj_M), mj_X g (mj_qI g) "WinterTellers$Guess" c_Guess_apartIn 6 (some .int) e 6 [(0, .ref 29), (1, .int x1), (2, .int x2), (3, .int x3), (4, .int x4), (5, .int x5)] [] M (F_Guess_apartIn_b6 N n x1 x2 x3 x4 x5 M) := by
  intro n
  induction n with
  | zero => intro x1 x2 x3 x4 x5 M; exact mj_none
  | succ n ih =>
    intro x1 x2 x3 x4 x5 M
    rw [F_Guess_apartIn_b6]
    refine mj_iload (pc := 6) (i := 5) rfl dd_Guess_apartIn_6 ?_
    refine mj_aload_n (pc := 8) (i := 0) rfl dd_Guess_apartIn_8 ?_
    refine mj_getR (pc := 9) (b := 29) (k := 1) qf_Guess_22 sh_29 cl_3 rfl (by decide) (r := 13) rfl dd_Guess_apartIn_9 ?_
    refine mj_getI (pc := 12) (b := 13) (k := 1) qf_Guess_34 sh_13 cl_0 rfl (by decide) rfl dd_Guess_apartIn_12 ?_
    refine mj_icmp_ge (pc := 15) (tgt := 57) dd_Guess_apartIn_15 rfl (fun h1 => ?_) (fun h1 => ?_)
    · refine mj_iload (pc := 57) (i := 4) rfl dd_Guess_apartIn_57 ?_
      refine mj_mabs (pc := 59) (idx := 55) qm_Guess_55 (Nat.le_of_ble_eq_true rfl) dd_Guess_apartIn_59 ?_
      exact mj_iret dd_Guess_apartIn_62 rfl rfl
    · refine mj_iload_n (pc := 18) (i := 3) rfl dd_Guess_apartIn_18 ?_
      refine mj_iload (pc := 19) (i := 5) rfl dd_Guess_apartIn_19 ?_
      refine mj_ishr (pc := 21) dd_Guess_apartIn_21 ?_
      refine mj_iconst (pc := 22) (v := (1 : Int32)) (by decide) dd_Guess_apartIn_22 ?_
      refine mj_iand (pc := 23) dd_Guess_apartIn_23 ?_
      refine mj_if_eq (pc := 24) (tgt := 51) dd_Guess_apartIn_24 rfl (fun h2 => ?_) (fun h2 => ?_)
      · refine mj_iinc (pc := 51) (i := 5) (z := (1 : Int32)) rfl (by decide) (by decide) dd_Guess_apartIn_51 ?_
        refine mj_L (L' := [(5, .int (x5 + (1 : Int32))), (0, .ref 29), (1, .int x1), (2, .int x2), (3, .int x3), (4, .int x4)]) [0, 1, 2, 3, 4, 5] rfl ?_
        refine mj_goto (pc := 54) (tgt := 6) dd_Guess_apartIn_54 rfl ?_
        refine mj_L (L' := [(0, .ref 29), (1, .int x1), (2, .int x2), (3, .int x3), (4, .int x4), (5, .int (x5 + (1 : Int32)))]) [1, 2, 3, 4, 5, 0] rfl ?_
        exact ih x1 x2 x3 x4 (x5 + (1 : Int32)) M
      · refine mj_iload (pc := 27) (i := 4) rfl dd_Guess_apartIn_27 ?_
        refine mj_aload_n (pc := 29) (i := 0) rfl dd_Guess_apartIn_29 ?_
        refine mj_getR (pc := 30) (b := 29) (k := 2) qf_Guess_26 sh_29 cl_3 rfl (by decide) (r := 28) rfl dd_Guess_apartIn_30 ?_
        refine mj_iload_n (pc := 33) (i := 1) rfl dd_Guess_apartIn_33 ?_
        refine mj_iload (pc := 34) (i := 5) rfl dd_Guess_apartIn_34 ?_
        refine mj_callVI (pc := 36) (idx := 43) (b := 28) (As := [.int x1, .int x5]) (st := [.int x4]) sh_28 cl_9 ev_Stays_asTold ql_Guess_43 rfl (Nat.le_of_ble_eq_true rfl) (T_Stays_asTold (g := g) N e (by omega) x1 x5 M) dd_Guess_apartIn_36 (fun q3 hq3 => ?_)
        refine mj_iload_n (pc := 39) (i := 2) rfl dd_Guess_apartIn_39 ?_
        refine mj_icmp_lt (pc := 40) (tgt := 47) dd_Guess_apartIn_40 rfl (fun h4 => ?_) (fun h4 => ?_)
        · refine mj_iconst (pc := 47) (v := (-1 : Int32)) (by decide) dd_Guess_apartIn_47 ?_
          refine mj_iadd (pc := 48) dd_Guess_apartIn_48 ?_
          refine mj_istoreL (pc := 49) (by decide) dd_Guess_apartIn_49 (fun v5 _ => ?_)
          refine mj_L (L' := [(4, .int v5), (0, .ref 29), (1, .int x1), (2, .int x2), (3, .int x3), (5, .int x5)]) [0, 1, 2, 3, 4, 5] rfl ?_
          refine mj_iinc (pc := 51) (i := 5) (z := (1 : Int32)) rfl (by decide) (by decide) dd_Guess_apartIn_51 ?_
          refine mj_L (L' := [(5, .int (x5 + (1 : Int32))), (4, .int v5), (0, .ref 29), (1, .int x1), (2, .int x2), (3, .int x3)]) [0, 1, 2, 3, 4, 5] rfl ?_
          refine mj_goto (pc := 54) (tgt := 6) dd_Guess_apartIn_54 rfl ?_
          refine mj_L (L' := [(0, .ref 29), (1, .int x1), (2, .int x2), (3, .int x3), (4, .int v5), (5, .int (x5 + (1 : Int32)))]) [2, 3, 4, 5, 1, 0] rfl ?_
          exact ih x1 x2 x3 v5 (x5 + (1 : Int32)) q3.2
        · refine mj_iconst (pc := 43) (v := (1 : Int32)) (by decide) dd_Guess_apartIn_43 ?_
          refine mj_goto (pc := 44) (tgt := 48) dd_Guess_apartIn_44 rfl ?_
          refine mj_iadd (pc := 48) dd_Guess_apartIn_48 ?_
          refine mj_istoreL (pc := 49) (by decide) dd_Guess_apartIn_49 (fun v6 _ => ?_)
          refine mj_L (L' := [(4, .int v6), (0, .ref 29), (1, .int x1), (2, .int x2), (3, .int x3), (5, .int x5)]) [0, 1, 2, 3, 4, 5] rfl ?_
          refine mj_iinc (pc := 51) (i := 5) (z := (1 : Int32)) rfl (by decide) (by decide) dd_Guess_apartIn_51 ?_
          refine mj_L (L' := [(5, .int (x5 + (1 : Int32))), (4, .int v6), (0, .ref 29), (1, .int x1), (2, .int x2), (3, .int x3)]) [0, 1, 2, 3, 4, 5] rfl ?_
          refine mj_goto (pc := 54) (tgt := 6) dd_Guess_apartIn_54 rfl ?_
          refine mj_L (L' := [(0, .ref 29), (1, .int x1), (2, .int x2), (3, .int x3), (4, .int v6), (5, .int (x5 + (1 : Int32)))]) [2, 3, 4, 5, 1, 0] rfl ?_
          exact ih x1 x2 x3 v6 (x5 + (1 : Int32)) q3.2
def F_Guess_apartIn (N : Nat) (x1 : Int32) (x2 : Int32) (x3 : Int32) (M : mj_M) : Option (Int32 × mj_M) :=
    F_Guess_apartIn_b6 N N x1 x2 x3 (0 : Int32) (0 : Int32) M
set_option maxRecDepth 20000 in
theorem T_Guess_apartIn {g : mj_G} (N : Nat) : ∀ d, 6 ≤ d → ∀ (x1 : Int32) (x2 : Int32) (x3 : Int32) (M : mj_M), mj_Mt g (mj_qI g) d y_Guess_apartIn c_Guess_apartIn 6 (some .int) [.ref 29, .int x1, .int x2, .int x3] M (F_Guess_apartIn N x1 x2 x3 M) := by
  intro d hd x1 x2 x3 M
  obtain ⟨e, rfl⟩ : ∃ e, d = e + 1 := ⟨d - 1, by omega⟩
  have he : 5 ≤ e := by omega
  refine mj_met (by decide +kernel) (Nat.le_of_ble_eq_true rfl) ?_
  unfold F_Guess_apartIn
  refine mj_L (L' := [(0, .ref 29), (1, .int x1), (2, .int x2), (3, .int x3)]) [0, 1, 2, 3] rfl ?_
  refine mj_iconst (pc := 0) (v := (0 : Int32)) (by decide) dd_Guess_apartIn_0 ?_
  refine mj_istore (pc := 1) (by decide) dd_Guess_apartIn_1 ?_
  refine mj_L (L' := [(4, .int (0 : Int32)), (0, .ref 29), (1, .int x1), (2, .int x2), (3, .int x3)]) [0, 1, 2, 3, 4] rfl ?_
  refine mj_iconst (pc := 3) (v := (0 : Int32)) (by decide) dd_Guess_apartIn_3 ?_
  refine mj_istore (pc := 4) (by decide) dd_Guess_apartIn_4 ?_
  refine mj_L (L' := [(5, .int (0 : Int32)), (4, .int (0 : Int32)), (0, .ref 29), (1, .int x1), (2, .int x2), (3, .int x3)]) [0, 1, 2, 3, 4, 5] rfl ?_
  refine mj_L (L' := [(0, .ref 29), (1, .int x1), (2, .int x2), (3, .int x3), (4, .int (0 : Int32)), (5, .int (0 : Int32))]) [2, 3, 4, 5, 1, 0] rfl ?_
  exact T_Guess_apartIn_b6 (g := g) N e he N x1 x2 x3 (0 : Int32) (0 : Int32) M
def F_Guess_houseToAsk_b9 (N : Nat) : Nat → Int32 → Int32 → Int32 → Int32 → Int32 → mj_M → Option (Int32 × mj_M)
  | 0, _, _, _, _, _, _ => none
  | n + 1, x1, x2, x3, x4, x5, M =>
    if (M 13 0) ≤ x5 then
     (some (x3, M))
     else
     (if x2 = (0) then
     (some (x3, M))
     else
     ((F_Guess_apartIn N x5 x1 x2 M).bind (fun q3 =>
     if x4 ≤ q3.1 then
     (F_Guess_houseToAsk_b9 N n x1 x2 x3 x4 (x5 + (1 : Int32)) q3.2)
     else
     (F_Guess_houseToAsk_b9 N n x1 x2 x5 q3.1 (x5 + (1 : Int32)) q3.2))))
set_option maxRecDepth 20000 in
theorem T_Guess_houseToAsk_b9 {g : mj_G} (N : Nat) (e : Nat) (he : 6 ≤ e) : ∀ (n : Nat) (x1 : Int32) (x2 : Int32) (x3 : Int32) (x4 : Int32) (x5 : Int32) (M : mj_M), mj_X g (mj_qI g) "WinterTellers$Guess" c_Guess_houseToAsk 7 (some .int) e 9 [(0, .ref 29), (1, .int x1), (2, .int x2), (3, .int x3), (4, .int x4), (5, .int x5)] [] M (F_Guess_houseToAsk_b9 N n x1 x2 x3 x4 x5 M) := by
  intro n
  induction n with
  | zero => intro x1 x2 x3 x4 x5 M; exact mj_none
  | succ n ih =>
    intro x1 x2 x3 x4 x5 M
    rw [F_Guess_houseToAsk_b9]
    refine mj_iload (pc := 9) (i := 5) rfl dd_Guess_houseToAsk_9 ?_
    refine mj_aload_n (pc := 11) (i := 0) rfl dd_Guess_houseToAsk_11 ?_
    refine mj_getR (pc := 12) (b := 29) (k := 1) qf_Guess_22 sh_29 cl_3 rfl (by decide) (r := 13) rfl dd_Guess_houseToAsk_12 ?_
    refine mj_getI (pc := 15) (b := 13) (k := 0) qf_Guess_49 sh_13 cl_0 rfl (by decide) rfl dd_Guess_houseToAsk_15 ?_
    refine mj_icmp_ge (pc := 18) (tgt := 55) dd_Guess_houseToAsk_18 rfl (fun h1 => ?_) (fun h1 => ?_)
    · refine mj_iload_n (pc := 55) (i := 3) rfl dd_Guess_houseToAsk_55 ?_
      exact mj_iret dd_Guess_houseToAsk_56 rfl rfl
    · refine mj_iload_n (pc := 21) (i := 2) rfl dd_Guess_houseToAsk_21 ?_
      refine mj_if_eq (pc := 22) (tgt := 55) dd_Guess_houseToAsk_22 rfl (fun h2 => ?_) (fun h2 => ?_)
      · refine mj_iload_n (pc := 55) (i := 3) rfl dd_Guess_houseToAsk_55 ?_
        exact mj_iret dd_Guess_houseToAsk_56 rfl rfl
      · refine mj_aload_n (pc := 25) (i := 0) rfl dd_Guess_houseToAsk_25 ?_
        refine mj_iload (pc := 26) (i := 5) rfl dd_Guess_houseToAsk_26 ?_
        refine mj_iload_n (pc := 28) (i := 1) rfl dd_Guess_houseToAsk_28 ?_
        refine mj_iload_n (pc := 29) (i := 2) rfl dd_Guess_houseToAsk_29 ?_
        refine mj_callVI (pc := 30) (idx := 51) (b := 29) (As := [.int x5, .int x1, .int x2]) (st := []) sh_29 cl_3 ev_Guess_apartIn ql_Guess_51 rfl (Nat.le_of_ble_eq_true rfl) (T_Guess_apartIn (g := g) N e (by omega) x5 x1 x2 M) dd_Guess_houseToAsk_30 (fun q3 hq3 => ?_)
        refine mj_istore (pc := 33) (by decide) dd_Guess_houseToAsk_33 ?_
        refine mj_L (L' := [(6, .int q3.1), (0, .ref 29), (1, .int x1), (2, .int x2), (3, .int x3), (4, .int x4), (5, .int x5)]) [0, 1, 2, 3, 4, 5, 6] rfl ?_
        refine mj_iload (pc := 35) (i := 6) rfl dd_Guess_houseToAsk_35 ?_
        refine mj_iload (pc := 37) (i := 4) rfl dd_Guess_houseToAsk_37 ?_
        refine mj_icmp_ge (pc := 39) (tgt := 49) dd_Guess_houseToAsk_39 rfl (fun h4 => ?_) (fun h4 => ?_)
        · refine mj_iinc (pc := 49) (i := 5) (z := (1 : Int32)) rfl (by decide) (by decide) dd_Guess_houseToAsk_49 ?_
          refine mj_L (L' := [(5, .int (x5 + (1 : Int32))), (0, .ref 29), (1, .int x1), (2, .int x2), (3, .int x3), (4, .int x4)]) [0, 2, 3, 4, 5, 6] rfl ?_
          refine mj_goto (pc := 52) (tgt := 9) dd_Guess_houseToAsk_52 rfl ?_
          refine mj_L (L' := [(0, .ref 29), (1, .int x1), (2, .int x2), (3, .int x3), (4, .int x4), (5, .int (x5 + (1 : Int32)))]) [1, 2, 3, 4, 5, 0] rfl ?_
          exact ih x1 x2 x3 x4 (x5 + (1 : Int32)) q3.2
        · refine mj_iload (pc := 42) (i := 6) rfl dd_Guess_houseToAsk_42 ?_
          refine mj_istore (pc := 44) (by decide) dd_Guess_houseToAsk_44 ?_
          refine mj_L (L' := [(4, .int q3.1), (0, .ref 29), (1, .int x1), (2, .int x2), (5, .int x5)]) [0, 2, 3, 4, 6] rfl ?_
          refine mj_iload (pc := 46) (i := 5) rfl dd_Guess_houseToAsk_46 ?_
          refine mj_istore_n (pc := 48) (by decide) dd_Guess_houseToAsk_48 ?_
          refine mj_L (L' := [(3, .int x5), (4, .int q3.1), (0, .ref 29), (1, .int x1), (2, .int x2), (5, .int x5)]) [0, 1, 2, 3, 4, 5] rfl ?_
          refine mj_iinc (pc := 49) (i := 5) (z := (1 : Int32)) rfl (by decide) (by decide) dd_Guess_houseToAsk_49 ?_
          refine mj_L (L' := [(5, .int (x5 + (1 : Int32))), (3, .int x5), (4, .int q3.1), (0, .ref 29), (1, .int x1), (2, .int x2)]) [0, 1, 2, 3, 4, 5] rfl ?_
          refine mj_goto (pc := 52) (tgt := 9) dd_Guess_houseToAsk_52 rfl ?_
          refine mj_L (L' := [(0, .ref 29), (1, .int x1), (2, .int x2), (3, .int x5), (4, .int q3.1), (5, .int (x5 + (1 : Int32)))]) [3, 4, 5, 1, 2, 0] rfl ?_
          exact ih x1 x2 x5 q3.1 (x5 + (1 : Int32)) q3.2
def F_Guess_houseToAsk (N : Nat) (x1 : Int32) (x2 : Int32) (M : mj_M) : Option (Int32 × mj_M) :=
    F_Guess_houseToAsk_b9 N N x1 x2 (-1 : Int32) (7 : Int32) (0 : Int32) M
set_option maxRecDepth 20000 in
theorem T_Guess_houseToAsk {g : mj_G} (N : Nat) : ∀ d, 7 ≤ d → ∀ (x1 : Int32) (x2 : Int32) (M : mj_M), mj_Mt g (mj_qI g) d y_Guess_houseToAsk c_Guess_houseToAsk 7 (some .int) [.ref 29, .int x1, .int x2] M (F_Guess_houseToAsk N x1 x2 M) := by
  intro d hd x1 x2 M
  obtain ⟨e, rfl⟩ : ∃ e, d = e + 1 := ⟨d - 1, by omega⟩
  have he : 6 ≤ e := by omega
  refine mj_met (by decide +kernel) (Nat.le_of_ble_eq_true rfl) ?_
  unfold F_Guess_houseToAsk
  refine mj_L (L' := [(0, .ref 29), (1, .int x1), (2, .int x2)]) [0, 1, 2] rfl ?_
  refine mj_iconst (pc := 0) (v := (-1 : Int32)) (by decide) dd_Guess_houseToAsk_0 ?_
  refine mj_istore_n (pc := 1) (by decide) dd_Guess_houseToAsk_1 ?_
  refine mj_L (L' := [(3, .int (-1 : Int32)), (0, .ref 29), (1, .int x1), (2, .int x2)]) [0, 1, 2, 3] rfl ?_
  refine mj_bipush (pc := 2) (v := (7 : Int32)) (by decide) dd_Guess_houseToAsk_2 ?_
  refine mj_istore (pc := 4) (by decide) dd_Guess_houseToAsk_4 ?_
  refine mj_L (L' := [(4, .int (7 : Int32)), (3, .int (-1 : Int32)), (0, .ref 29), (1, .int x1), (2, .int x2)]) [0, 1, 2, 3, 4] rfl ?_
  refine mj_iconst (pc := 6) (v := (0 : Int32)) (by decide) dd_Guess_houseToAsk_6 ?_
  refine mj_istore (pc := 7) (by decide) dd_Guess_houseToAsk_7 ?_
  refine mj_L (L' := [(5, .int (0 : Int32)), (4, .int (7 : Int32)), (3, .int (-1 : Int32)), (0, .ref 29), (1, .int x1), (2, .int x2)]) [0, 1, 2, 3, 4, 5] rfl ?_
  refine mj_L (L' := [(0, .ref 29), (1, .int x1), (2, .int x2), (3, .int (-1 : Int32)), (4, .int (7 : Int32)), (5, .int (0 : Int32))]) [3, 4, 5, 2, 1, 0] rfl ?_
  exact T_Guess_houseToAsk_b9 (g := g) N e he N x1 x2 (-1 : Int32) (7 : Int32) (0 : Int32) M
def F_W_ask (N : Nat) (x1 : Int32) (M : mj_M) : Option (Int32 × mj_M) :=
    (F_Coast_isTold M).bind (fun q1 =>
     if q1.1 = (0) then
     (some ((-1 : Int32), q1.2))
     else
     (if x1 < (0) then
     (some ((-1 : Int32), q1.2))
     else
     (if (20 : Int32) < x1 then
     (some ((-1 : Int32), q1.2))
     else
     ((F_Guess_fitting N q1.2).bind (fun q5 =>
     (F_Guess_houseToAsk N x1 q5.1 q5.2).bind (fun q6 =>
     some (q6.1, q6.2)))))))
set_option maxRecDepth 20000 in
theorem T_W_ask {g : mj_G} (N : Nat) : ∀ d, 8 ≤ d → ∀ (x1 : Int32) (M : mj_M), mj_Mt g (mj_qI g) d y_W_ask c_W_ask 2 (some .int) [.ref 0, .int x1] M (F_W_ask N x1 M) := by
  intro d hd x1 M
  obtain ⟨e, rfl⟩ : ∃ e, d = e + 1 := ⟨d - 1, by omega⟩
  have he : 7 ≤ e := by omega
  refine mj_met (by decide +kernel) (Nat.le_of_ble_eq_true rfl) ?_
  unfold F_W_ask
  refine mj_L (L' := [(0, .ref 0), (1, .int x1)]) [0, 1] rfl ?_
  refine mj_aload_n (pc := 0) (i := 0) rfl dd_W_ask_0 ?_
  refine mj_getR (pc := 1) (b := 0) (k := 4) qf_W_42 sh_0 cl_11 rfl (by decide) (r := 13) rfl dd_W_ask_1 ?_
  refine mj_callVI (pc := 4) (idx := 235) (b := 13) (As := []) (st := []) sh_13 cl_0 ev_Coast_isTold ql_W_235 rfl (Nat.le_of_ble_eq_true rfl) (T_Coast_isTold (g := g) e (by omega) M) dd_W_ask_4 (fun q1 hq1 => ?_)
  refine mj_if_eq (pc := 7) (tgt := 38) dd_W_ask_7 rfl (fun h2 => ?_) (fun h2 => ?_)
  · refine mj_iconst (pc := 38) (v := (-1 : Int32)) (by decide) dd_W_ask_38 ?_
    exact mj_iret dd_W_ask_39 rfl rfl
  · refine mj_iload_n (pc := 10) (i := 1) rfl dd_W_ask_10 ?_
    refine mj_if_lt (pc := 11) (tgt := 38) dd_W_ask_11 rfl (fun h3 => ?_) (fun h3 => ?_)
    · refine mj_iconst (pc := 38) (v := (-1 : Int32)) (by decide) dd_W_ask_38 ?_
      exact mj_iret dd_W_ask_39 rfl rfl
    · refine mj_iload_n (pc := 14) (i := 1) rfl dd_W_ask_14 ?_
      refine mj_bipush (pc := 15) (v := (20 : Int32)) (by decide) dd_W_ask_15 ?_
      refine mj_icmp_gt (pc := 17) (tgt := 38) dd_W_ask_17 rfl (fun h4 => ?_) (fun h4 => ?_)
      · refine mj_iconst (pc := 38) (v := (-1 : Int32)) (by decide) dd_W_ask_38 ?_
        exact mj_iret dd_W_ask_39 rfl rfl
      · refine mj_aload_n (pc := 20) (i := 0) rfl dd_W_ask_20 ?_
        refine mj_getR (pc := 21) (b := 0) (k := 8) qf_W_74 sh_0 cl_11 rfl (by decide) (r := 29) rfl dd_W_ask_21 ?_
        refine mj_iload_n (pc := 24) (i := 1) rfl dd_W_ask_24 ?_
        refine mj_aload_n (pc := 25) (i := 0) rfl dd_W_ask_25 ?_
        refine mj_getR (pc := 26) (b := 0) (k := 8) qf_W_74 sh_0 cl_11 rfl (by decide) (r := 29) rfl dd_W_ask_26 ?_
        refine mj_callVI (pc := 29) (idx := 305) (b := 29) (As := []) (st := [.int x1, .ref 29]) sh_29 cl_3 ev_Guess_fitting ql_W_305 rfl (Nat.le_of_ble_eq_true rfl) (T_Guess_fitting (g := g) N e (by omega) q1.2) dd_W_ask_29 (fun q5 hq5 => ?_)
        refine mj_callVI (pc := 32) (idx := 311) (b := 29) (As := [.int x1, .int q5.1]) (st := []) sh_29 cl_3 ev_Guess_houseToAsk ql_W_311 rfl (Nat.le_of_ble_eq_true rfl) (T_Guess_houseToAsk (g := g) N e (by omega) x1 q5.1 q5.2) dd_W_ask_32 (fun q6 hq6 => ?_)
        refine mj_goto (pc := 35) (tgt := 39) dd_W_ask_35 rfl ?_
        exact mj_iret dd_W_ask_39 rfl rfl
def F_M_ask_b114 (N : Nat) (k35 : Int32 → Int32 → Int32 → Int32 → mj_M → Option (Int32 × mj_M)) (x1 : Int32) (x4 : Int32) (x5 : Int32) (M : mj_M) : Option (Int32 × mj_M) :=
    mj_lt (mj_abs x5) (fun v17 =>
     k35 x1 x4 v17 (x4 + (1 : Int32)) M)
set_option maxRecDepth 20000 in
theorem T_M_ask_b114 {g : mj_G} (N : Nat) (e : Nat) (he : 8 ≤ e) (k35 : Int32 → Int32 → Int32 → Int32 → mj_M → Option (Int32 × mj_M)) (hk35 : ∀ (x1 : Int32) (x2 : Int32) (x3 : Int32) (x4 : Int32) (M : mj_M), mj_X g (mj_qI g) "WinterTellersModel" c_M_ask 7 (some .int) e 35 [(0, .ref 48), (1, .int x1), (2, .int x2), (3, .int x3), (4, .int x4)] [] M (k35 x1 x2 x3 x4 M)) (x1 : Int32) (x4 : Int32) (x5 : Int32) (M : mj_M) : mj_X g (mj_qI g) "WinterTellersModel" c_M_ask 7 (some .int) e 114 [(0, .ref 48), (1, .int x1), (4, .int x4), (5, .int x5)] [] M (F_M_ask_b114 N k35 x1 x4 x5 M) := by
  unfold F_M_ask_b114
  refine mj_iload (pc := 114) (i := 4) rfl dd_M_ask_114 ?_
  refine mj_istore_n (pc := 116) (by decide) dd_M_ask_116 ?_
  refine mj_L (L' := [(2, .int x4), (0, .ref 48), (1, .int x1), (4, .int x4), (5, .int x5)]) [0, 1, 2, 3, 4] rfl ?_
  refine mj_iload (pc := 117) (i := 5) rfl dd_M_ask_117 ?_
  refine mj_mabs (pc := 119) (idx := 287) qm_M_287 (Nat.le_of_ble_eq_true rfl) dd_M_ask_119 ?_
  refine mj_istore_nL (pc := 122) (by decide) dd_M_ask_122 (fun v17 _ => ?_)
  refine mj_L (L' := [(3, .int v17), (2, .int x4), (0, .ref 48), (1, .int x1), (4, .int x4)]) [0, 1, 2, 3, 4] rfl ?_
  refine mj_iinc (pc := 123) (i := 4) (z := (1 : Int32)) rfl (by decide) (by decide) dd_M_ask_123 ?_
  refine mj_L (L' := [(4, .int (x4 + (1 : Int32))), (3, .int v17), (2, .int x4), (0, .ref 48), (1, .int x1)]) [0, 1, 2, 3, 4] rfl ?_
  refine mj_goto (pc := 126) (tgt := 35) dd_M_ask_126 rfl ?_
  refine mj_L (L' := [(0, .ref 48), (1, .int x1), (2, .int x4), (3, .int v17), (4, .int (x4 + (1 : Int32)))]) [3, 4, 2, 1, 0] rfl ?_
  exact hk35 x1 x4 v17 (x4 + (1 : Int32)) M
def F_M_ask_b50 (N : Nat) (k35 : Int32 → Int32 → Int32 → Int32 → mj_M → Option (Int32 × mj_M)) : Nat → Int32 → Int32 → Int32 → Int32 → Int32 → Int32 → mj_M → Option (Int32 × mj_M)
  | 0, _, _, _, _, _, _, _ => none
  | n + 1, x1, x2, x3, x4, x5, x6, M =>
    if (M 48 26) ≤ x6 then
     (if x2 = (-1 : Int32) then
     (F_M_ask_b114 N k35 x1 x4 x5 M)
     else
     (if x3 ≤ (mj_abs x5) then
     (k35 x1 x2 x3 (x4 + (1 : Int32)) M)
     else
     (F_M_ask_b114 N k35 x1 x4 x5 M)))
     else
     ((F_M_isTold N x6 M).bind (fun q10 =>
     if q10.1 = (0) then
     (mj_lt (x5 + (0 : Int32)) (fun v16 =>
     F_M_ask_b50 N k35 n x1 x2 x3 x4 v16 (x6 + (1 : Int32)) q10.2))
     else
     ((F_M_toldNights N x4 x6 q10.2).bind (fun q12 =>
     if q12.1 < x1 then
     (mj_lt (x5 + (-1 : Int32)) (fun v14 =>
     F_M_ask_b50 N k35 n x1 x2 x3 x4 v14 (x6 + (1 : Int32)) q12.2))
     else
     (mj_lt (x5 + (1 : Int32)) (fun v15 =>
     F_M_ask_b50 N k35 n x1 x2 x3 x4 v15 (x6 + (1 : Int32)) q12.2))))))
set_option maxRecDepth 20000 in
theorem T_M_ask_b50 {g : mj_G} (N : Nat) (e : Nat) (he : 8 ≤ e) (k35 : Int32 → Int32 → Int32 → Int32 → mj_M → Option (Int32 × mj_M)) (hk35 : ∀ (x1 : Int32) (x2 : Int32) (x3 : Int32) (x4 : Int32) (M : mj_M), mj_X g (mj_qI g) "WinterTellersModel" c_M_ask 7 (some .int) e 35 [(0, .ref 48), (1, .int x1), (2, .int x2), (3, .int x3), (4, .int x4)] [] M (k35 x1 x2 x3 x4 M)) : ∀ (n : Nat) (x1 : Int32) (x2 : Int32) (x3 : Int32) (x4 : Int32) (x5 : Int32) (x6 : Int32) (M : mj_M), mj_X g (mj_qI g) "WinterTellersModel" c_M_ask 7 (some .int) e 50 [(0, .ref 48), (1, .int x1), (2, .int x2), (3, .int x3), (4, .int x4), (5, .int x5), (6, .int x6)] [] M (F_M_ask_b50 N k35 n x1 x2 x3 x4 x5 x6 M) := by
  intro n
  induction n with
  | zero => intro x1 x2 x3 x4 x5 x6 M; exact mj_none
  | succ n ih =>
    intro x1 x2 x3 x4 x5 x6 M
    rw [F_M_ask_b50]
    refine mj_iload (pc := 50) (i := 6) rfl dd_M_ask_50 ?_
    refine mj_aload_n (pc := 52) (i := 0) rfl dd_M_ask_52 ?_
    refine mj_getI (pc := 53) (b := 48) (k := 26) qf_M_245 sh_48 cl_12 rfl (by decide) rfl dd_M_ask_53 ?_
    refine mj_icmp_ge (pc := 56) (tgt := 100) dd_M_ask_56 rfl (fun h7 => ?_) (fun h7 => ?_)
    · refine mj_iload_n (pc := 100) (i := 2) rfl dd_M_ask_100 ?_
      refine mj_iconst (pc := 101) (v := (-1 : Int32)) (by decide) dd_M_ask_101 ?_
      refine mj_icmp_eq (pc := 102) (tgt := 114) dd_M_ask_102 rfl (fun h8 => ?_) (fun h8 => ?_)
      · refine mj_L (L' := [(0, .ref 48), (1, .int x1), (4, .int x4), (5, .int x5)]) [0, 1, 4, 5] rfl ?_
        exact T_M_ask_b114 (g := g) N e he k35 hk35 x1 x4 x5 M
      · refine mj_iload (pc := 105) (i := 5) rfl dd_M_ask_105 ?_
        refine mj_mabs (pc := 107) (idx := 287) qm_M_287 (Nat.le_of_ble_eq_true rfl) dd_M_ask_107 ?_
        refine mj_iload_n (pc := 110) (i := 3) rfl dd_M_ask_110 ?_
        refine mj_icmp_ge (pc := 111) (tgt := 123) dd_M_ask_111 rfl (fun h9 => ?_) (fun h9 => ?_)
        · refine mj_iinc (pc := 123) (i := 4) (z := (1 : Int32)) rfl (by decide) (by decide) dd_M_ask_123 ?_
          refine mj_L (L' := [(4, .int (x4 + (1 : Int32))), (0, .ref 48), (1, .int x1), (2, .int x2), (3, .int x3)]) [0, 1, 2, 3, 4] rfl ?_
          refine mj_goto (pc := 126) (tgt := 35) dd_M_ask_126 rfl ?_
          refine mj_L (L' := [(0, .ref 48), (1, .int x1), (2, .int x2), (3, .int x3), (4, .int (x4 + (1 : Int32)))]) [1, 2, 3, 4, 0] rfl ?_
          exact hk35 x1 x2 x3 (x4 + (1 : Int32)) M
        · refine mj_L (L' := [(0, .ref 48), (1, .int x1), (4, .int x4), (5, .int x5)]) [0, 1, 4, 5] rfl ?_
          exact T_M_ask_b114 (g := g) N e he k35 hk35 x1 x4 x5 M
    · refine mj_iload (pc := 59) (i := 5) rfl dd_M_ask_59 ?_
      refine mj_aload_n (pc := 61) (i := 0) rfl dd_M_ask_61 ?_
      refine mj_iload (pc := 62) (i := 6) rfl dd_M_ask_62 ?_
      refine mj_callVI (pc := 64) (idx := 377) (b := 48) (As := [.int x6]) (st := [.int x5]) sh_48 cl_12 ev_M_isTold ql_M_377 rfl (Nat.le_of_ble_eq_true rfl) (T_M_isTold (g := g) N e (by omega) x6 M) dd_M_ask_64 (fun q10 hq10 => ?_)
      refine mj_if_ne (pc := 67) (tgt := 74) dd_M_ask_67 rfl (fun h11 => ?_) (fun h11 => ?_)
      · refine mj_iconst (pc := 70) (v := (0 : Int32)) (by decide) dd_M_ask_70 ?_
        refine mj_goto (pc := 71) (tgt := 91) dd_M_ask_71 rfl ?_
        refine mj_iadd (pc := 91) dd_M_ask_91 ?_
        refine mj_istoreL (pc := 92) (by decide) dd_M_ask_92 (fun v16 _ => ?_)
        refine mj_L (L' := [(5, .int v16), (0, .ref 48), (1, .int x1), (2, .int x2), (3, .int x3), (4, .int x4), (6, .int x6)]) [0, 1, 2, 3, 4, 5, 6] rfl ?_
        refine mj_iinc (pc := 94) (i := 6) (z := (1 : Int32)) rfl (by decide) (by decide) dd_M_ask_94 ?_
        refine mj_L (L' := [(6, .int (x6 + (1 : Int32))), (5, .int v16), (0, .ref 48), (1, .int x1), (2, .int x2), (3, .int x3), (4, .int x4)]) [0, 1, 2, 3, 4, 5, 6] rfl ?_
        refine mj_goto (pc := 97) (tgt := 50) dd_M_ask_97 rfl ?_
        refine mj_L (L' := [(0, .ref 48), (1, .int x1), (2, .int x2), (3, .int x3), (4, .int x4), (5, .int v16), (6, .int (x6 + (1 : Int32)))]) [2, 3, 4, 5, 6, 1, 0] rfl ?_
        exact ih x1 x2 x3 x4 v16 (x6 + (1 : Int32)) q10.2
      · refine mj_aload_n (pc := 74) (i := 0) rfl dd_M_ask_74 ?_
        refine mj_iload (pc := 75) (i := 4) rfl dd_M_ask_75 ?_
        refine mj_iload (pc := 77) (i := 6) rfl dd_M_ask_77 ?_
        refine mj_callVI (pc := 79) (idx := 374) (b := 48) (As := [.int x4, .int x6]) (st := [.int x5]) sh_48 cl_12 ev_M_toldNights ql_M_374 rfl (Nat.le_of_ble_eq_true rfl) (T_M_toldNights (g := g) N e (by omega) x4 x6 q10.2) dd_M_ask_79 (fun q12 hq12 => ?_)
        refine mj_iload_n (pc := 82) (i := 1) rfl dd_M_ask_82 ?_
        refine mj_icmp_lt (pc := 83) (tgt := 90) dd_M_ask_83 rfl (fun h13 => ?_) (fun h13 => ?_)
        · refine mj_iconst (pc := 90) (v := (-1 : Int32)) (by decide) dd_M_ask_90 ?_
          refine mj_iadd (pc := 91) dd_M_ask_91 ?_
          refine mj_istoreL (pc := 92) (by decide) dd_M_ask_92 (fun v14 _ => ?_)
          refine mj_L (L' := [(5, .int v14), (0, .ref 48), (1, .int x1), (2, .int x2), (3, .int x3), (4, .int x4), (6, .int x6)]) [0, 1, 2, 3, 4, 5, 6] rfl ?_
          refine mj_iinc (pc := 94) (i := 6) (z := (1 : Int32)) rfl (by decide) (by decide) dd_M_ask_94 ?_
          refine mj_L (L' := [(6, .int (x6 + (1 : Int32))), (5, .int v14), (0, .ref 48), (1, .int x1), (2, .int x2), (3, .int x3), (4, .int x4)]) [0, 1, 2, 3, 4, 5, 6] rfl ?_
          refine mj_goto (pc := 97) (tgt := 50) dd_M_ask_97 rfl ?_
          refine mj_L (L' := [(0, .ref 48), (1, .int x1), (2, .int x2), (3, .int x3), (4, .int x4), (5, .int v14), (6, .int (x6 + (1 : Int32)))]) [2, 3, 4, 5, 6, 1, 0] rfl ?_
          exact ih x1 x2 x3 x4 v14 (x6 + (1 : Int32)) q12.2
        · refine mj_iconst (pc := 86) (v := (1 : Int32)) (by decide) dd_M_ask_86 ?_
          refine mj_goto (pc := 87) (tgt := 91) dd_M_ask_87 rfl ?_
          refine mj_iadd (pc := 91) dd_M_ask_91 ?_
          refine mj_istoreL (pc := 92) (by decide) dd_M_ask_92 (fun v15 _ => ?_)
          refine mj_L (L' := [(5, .int v15), (0, .ref 48), (1, .int x1), (2, .int x2), (3, .int x3), (4, .int x4), (6, .int x6)]) [0, 1, 2, 3, 4, 5, 6] rfl ?_
          refine mj_iinc (pc := 94) (i := 6) (z := (1 : Int32)) rfl (by decide) (by decide) dd_M_ask_94 ?_
          refine mj_L (L' := [(6, .int (x6 + (1 : Int32))), (5, .int v15), (0, .ref 48), (1, .int x1), (2, .int x2), (3, .int x3), (4, .int x4)]) [0, 1, 2, 3, 4, 5, 6] rfl ?_
          refine mj_goto (pc := 97) (tgt := 50) dd_M_ask_97 rfl ?_
          refine mj_L (L' := [(0, .ref 48), (1, .int x1), (2, .int x2), (3, .int x3), (4, .int x4), (5, .int v15), (6, .int (x6 + (1 : Int32)))]) [2, 3, 4, 5, 6, 1, 0] rfl ?_
          exact ih x1 x2 x3 x4 v15 (x6 + (1 : Int32)) q12.2
def F_M_ask_b35 (N : Nat) : Nat → Int32 → Int32 → Int32 → Int32 → mj_M → Option (Int32 × mj_M)
  | 0, _, _, _, _, _ => none
  | n + 1, x1, x2, x3, x4, M =>
    if (M 48 25) ≤ x4 then
     (some (x2, M))
     else
     (F_M_ask_b50 N (F_M_ask_b35 N n) N x1 x2 x3 x4 (0 : Int32) (0 : Int32) M)
set_option maxRecDepth 20000 in
theorem T_M_ask_b35 {g : mj_G} (N : Nat) (e : Nat) (he : 8 ≤ e) : ∀ (n : Nat) (x1 : Int32) (x2 : Int32) (x3 : Int32) (x4 : Int32) (M : mj_M), mj_X g (mj_qI g) "WinterTellersModel" c_M_ask 7 (some .int) e 35 [(0, .ref 48), (1, .int x1), (2, .int x2), (3, .int x3), (4, .int x4)] [] M (F_M_ask_b35 N n x1 x2 x3 x4 M) := by
  intro n
  induction n with
  | zero => intro x1 x2 x3 x4 M; exact mj_none
  | succ n ih =>
    intro x1 x2 x3 x4 M
    rw [F_M_ask_b35]
    refine mj_iload (pc := 35) (i := 4) rfl dd_M_ask_35 ?_
    refine mj_aload_n (pc := 37) (i := 0) rfl dd_M_ask_37 ?_
    refine mj_getI (pc := 38) (b := 48) (k := 25) qf_M_242 sh_48 cl_12 rfl (by decide) rfl dd_M_ask_38 ?_
    refine mj_icmp_ge (pc := 41) (tgt := 129) dd_M_ask_41 rfl (fun h6 => ?_) (fun h6 => ?_)
    · refine mj_iload_n (pc := 129) (i := 2) rfl dd_M_ask_129 ?_
      exact mj_iret dd_M_ask_130 rfl rfl
    · refine mj_iconst (pc := 44) (v := (0 : Int32)) (by decide) dd_M_ask_44 ?_
      refine mj_istore (pc := 45) (by decide) dd_M_ask_45 ?_
      refine mj_L (L' := [(5, .int (0 : Int32)), (0, .ref 48), (1, .int x1), (2, .int x2), (3, .int x3), (4, .int x4)]) [0, 1, 2, 3, 4, 5] rfl ?_
      refine mj_iconst (pc := 47) (v := (0 : Int32)) (by decide) dd_M_ask_47 ?_
      refine mj_istore (pc := 48) (by decide) dd_M_ask_48 ?_
      refine mj_L (L' := [(6, .int (0 : Int32)), (5, .int (0 : Int32)), (0, .ref 48), (1, .int x1), (2, .int x2), (3, .int x3), (4, .int x4)]) [0, 1, 2, 3, 4, 5, 6] rfl ?_
      refine mj_L (L' := [(0, .ref 48), (1, .int x1), (2, .int x2), (3, .int x3), (4, .int x4), (5, .int (0 : Int32)), (6, .int (0 : Int32))]) [2, 3, 4, 5, 6, 1, 0] rfl ?_
      exact T_M_ask_b50 (g := g) N e he (F_M_ask_b35 N n) ih N x1 x2 x3 x4 (0 : Int32) (0 : Int32) M
def F_M_ask (N : Nat) (x1 : Int32) (M : mj_M) : Option (Int32 × mj_M) :=
    if (M 48 25) = (0) then
     (some ((-1 : Int32), M))
     else
     ((F_M_in x1 (0 : Int32) (20 : Int32) M).bind (fun q2 =>
     if q2.1 = (0) then
     (some ((-1 : Int32), q2.2))
     else
     ((F_M_told N (0 : Int32) q2.2).bind (fun q4 =>
     if q4.1 = (-1 : Int32) then
     (some ((-1 : Int32), q4.2))
     else
     (F_M_ask_b35 N N x1 (-1 : Int32) (0 : Int32) (0 : Int32) q4.2)))))
set_option maxRecDepth 20000 in
theorem T_M_ask {g : mj_G} (N : Nat) : ∀ d, 9 ≤ d → ∀ (x1 : Int32) (M : mj_M), mj_Mt g (mj_qI g) d y_M_ask c_M_ask 7 (some .int) [.ref 48, .int x1] M (F_M_ask N x1 M) := by
  intro d hd x1 M
  obtain ⟨e, rfl⟩ : ∃ e, d = e + 1 := ⟨d - 1, by omega⟩
  have he : 8 ≤ e := by omega
  refine mj_met (by decide +kernel) (Nat.le_of_ble_eq_true rfl) ?_
  unfold F_M_ask
  refine mj_L (L' := [(0, .ref 48), (1, .int x1)]) [0, 1] rfl ?_
  refine mj_aload_n (pc := 0) (i := 0) rfl dd_M_ask_0 ?_
  refine mj_getI (pc := 1) (b := 48) (k := 25) qf_M_242 sh_48 cl_12 rfl (by decide) rfl dd_M_ask_1 ?_
  refine mj_if_eq (pc := 4) (tgt := 26) dd_M_ask_4 rfl (fun h1 => ?_) (fun h1 => ?_)
  · refine mj_iconst (pc := 26) (v := (-1 : Int32)) (by decide) dd_M_ask_26 ?_
    exact mj_iret dd_M_ask_27 rfl rfl
  · refine mj_iload_n (pc := 7) (i := 1) rfl dd_M_ask_7 ?_
    refine mj_iconst (pc := 8) (v := (0 : Int32)) (by decide) dd_M_ask_8 ?_
    refine mj_bipush (pc := 9) (v := (20 : Int32)) (by decide) dd_M_ask_9 ?_
    refine mj_callSI (pc := 11) (idx := 205) (As := [.int x1, .int (0 : Int32), .int (20 : Int32)]) (st := []) es_M_in ql_M_205 rfl (Nat.le_of_ble_eq_true rfl) (T_M_in (g := g) e (by omega) x1 (0 : Int32) (20 : Int32) M) dd_M_ask_11 (fun q2 hq2 => ?_)
    refine mj_if_eq (pc := 14) (tgt := 26) dd_M_ask_14 rfl (fun h3 => ?_) (fun h3 => ?_)
    · refine mj_iconst (pc := 26) (v := (-1 : Int32)) (by decide) dd_M_ask_26 ?_
      exact mj_iret dd_M_ask_27 rfl rfl
    · refine mj_aload_n (pc := 17) (i := 0) rfl dd_M_ask_17 ?_
      refine mj_iconst (pc := 18) (v := (0 : Int32)) (by decide) dd_M_ask_18 ?_
      refine mj_callVI (pc := 19) (idx := 380) (b := 48) (As := [.int (0 : Int32)]) (st := []) sh_48 cl_12 ev_M_told ql_M_380 rfl (Nat.le_of_ble_eq_true rfl) (T_M_told (g := g) N e (by omega) (0 : Int32) q2.2) dd_M_ask_19 (fun q4 hq4 => ?_)
      refine mj_iconst (pc := 22) (v := (-1 : Int32)) (by decide) dd_M_ask_22 ?_
      refine mj_icmp_ne (pc := 23) (tgt := 28) dd_M_ask_23 rfl (fun h5 => ?_) (fun h5 => ?_)
      · refine mj_iconst (pc := 26) (v := (-1 : Int32)) (by decide) dd_M_ask_26 ?_
        exact mj_iret dd_M_ask_27 rfl rfl
      · refine mj_iconst (pc := 28) (v := (-1 : Int32)) (by decide) dd_M_ask_28 ?_
        refine mj_istore_n (pc := 29) (by decide) dd_M_ask_29 ?_
        refine mj_L (L' := [(2, .int (-1 : Int32)), (0, .ref 48), (1, .int x1)]) [0, 1, 2] rfl ?_
        refine mj_iconst (pc := 30) (v := (0 : Int32)) (by decide) dd_M_ask_30 ?_
        refine mj_istore_n (pc := 31) (by decide) dd_M_ask_31 ?_
        refine mj_L (L' := [(3, .int (0 : Int32)), (2, .int (-1 : Int32)), (0, .ref 48), (1, .int x1)]) [0, 1, 2, 3] rfl ?_
        refine mj_iconst (pc := 32) (v := (0 : Int32)) (by decide) dd_M_ask_32 ?_
        refine mj_istore (pc := 33) (by decide) dd_M_ask_33 ?_
        refine mj_L (L' := [(4, .int (0 : Int32)), (3, .int (0 : Int32)), (2, .int (-1 : Int32)), (0, .ref 48), (1, .int x1)]) [0, 1, 2, 3, 4] rfl ?_
        refine mj_L (L' := [(0, .ref 48), (1, .int x1), (2, .int (-1 : Int32)), (3, .int (0 : Int32)), (4, .int (0 : Int32))]) [3, 4, 2, 1, 0] rfl ?_
        exact T_M_ask_b35 (g := g) N e he N x1 (-1 : Int32) (0 : Int32) (0 : Int32) q4.2
