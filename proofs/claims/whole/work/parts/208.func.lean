/-! ===== functions and their proofs ===== -/
def F_Stand_heardBits_b4 (N : Nat) : Nat → Int32 → Int32 → Int32 → mj_M → Option (Int32 × mj_M)
  | 0, _, _, _, _ => none
  | n + 1, x1, x2, x3, M =>
    if (6 : Int32) ≤ x3 then
     (some (x2, M))
     else
     (mj_ck ((x1 * (6 : Int32)) + x3) 36 (
     if (M 22 ((x1 * (6 : Int32)) + x3).toNatClampNeg) ≤ (0) then
     (F_Stand_heardBits_b4 N n x1 x2 (x3 + (1 : Int32)) M)
     else
     (mj_lt (x2 ||| ((1 : Int32) <<< (x3 &&& 31))) (fun v3 =>
     F_Stand_heardBits_b4 N n x1 v3 (x3 + (1 : Int32)) M))))
set_option maxRecDepth 20000 in
theorem T_Stand_heardBits_b4 {g : mj_G} (N : Nat) (e : Nat) (he : 0 ≤ e) : ∀ (n : Nat) (x1 : Int32) (x2 : Int32) (x3 : Int32) (M : mj_M), mj_X g (mj_qI g) "WinterTellers$Stand" c_Stand_heardBits 4 (some .int) e 4 [(0, .ref 20), (1, .int x1), (2, .int x2), (3, .int x3)] [] M (F_Stand_heardBits_b4 N n x1 x2 x3 M) := by
  intro n
  induction n with
  | zero => intro x1 x2 x3 M; exact mj_none
  | succ n ih =>
    intro x1 x2 x3 M
    rw [F_Stand_heardBits_b4]
    refine mj_iload_n (pc := 4) (i := 3) rfl dd_Stand_heardBits_4 ?_
    refine mj_bipush (pc := 5) (v := (6 : Int32)) (by decide) dd_Stand_heardBits_5 ?_
    refine mj_icmp_ge (pc := 7) (tgt := 36) dd_Stand_heardBits_7 rfl (fun h1 => ?_) (fun h1 => ?_)
    · refine mj_iload_n (pc := 36) (i := 2) rfl dd_Stand_heardBits_36 ?_
      exact mj_iret dd_Stand_heardBits_37 rfl rfl
    · refine mj_aload_n (pc := 10) (i := 0) rfl dd_Stand_heardBits_10 ?_
      refine mj_getR (pc := 11) (b := 20) (k := 8) qf_Stand_17 sh_20 cl_8 rfl (by decide) (r := 22) rfl dd_Stand_heardBits_11 ?_
      refine mj_iload_n (pc := 14) (i := 1) rfl dd_Stand_heardBits_14 ?_
      refine mj_bipush (pc := 15) (v := (6 : Int32)) (by decide) dd_Stand_heardBits_15 ?_
      refine mj_imul (pc := 17) dd_Stand_heardBits_17 ?_
      refine mj_iload_n (pc := 18) (i := 3) rfl dd_Stand_heardBits_18 ?_
      refine mj_iadd (pc := 19) dd_Stand_heardBits_19 ?_
      refine mj_iald (pc := 20) sh_22 dd_Stand_heardBits_20 ?_
      refine mj_if_le (pc := 21) (tgt := 30) dd_Stand_heardBits_21 rfl (fun h2 => ?_) (fun h2 => ?_)
      · refine mj_iinc (pc := 30) (i := 3) (z := (1 : Int32)) rfl (by decide) (by decide) dd_Stand_heardBits_30 ?_
        refine mj_L (L' := [(3, .int (x3 + (1 : Int32))), (0, .ref 20), (1, .int x1), (2, .int x2)]) [0, 1, 2, 3] rfl ?_
        refine mj_goto (pc := 33) (tgt := 4) dd_Stand_heardBits_33 rfl ?_
        refine mj_L (L' := [(0, .ref 20), (1, .int x1), (2, .int x2), (3, .int (x3 + (1 : Int32)))]) [1, 2, 3, 0] rfl ?_
        exact ih x1 x2 (x3 + (1 : Int32)) M
      · refine mj_iload_n (pc := 24) (i := 2) rfl dd_Stand_heardBits_24 ?_
        refine mj_iconst (pc := 25) (v := (1 : Int32)) (by decide) dd_Stand_heardBits_25 ?_
        refine mj_iload_n (pc := 26) (i := 3) rfl dd_Stand_heardBits_26 ?_
        refine mj_ishl (pc := 27) dd_Stand_heardBits_27 ?_
        refine mj_ior (pc := 28) dd_Stand_heardBits_28 ?_
        refine mj_istore_nL (pc := 29) (by decide) dd_Stand_heardBits_29 (fun v3 _ => ?_)
        refine mj_L (L' := [(2, .int v3), (0, .ref 20), (1, .int x1), (3, .int x3)]) [0, 1, 2, 3] rfl ?_
        refine mj_iinc (pc := 30) (i := 3) (z := (1 : Int32)) rfl (by decide) (by decide) dd_Stand_heardBits_30 ?_
        refine mj_L (L' := [(3, .int (x3 + (1 : Int32))), (2, .int v3), (0, .ref 20), (1, .int x1)]) [0, 1, 2, 3] rfl ?_
        refine mj_goto (pc := 33) (tgt := 4) dd_Stand_heardBits_33 rfl ?_
        refine mj_L (L' := [(0, .ref 20), (1, .int x1), (2, .int v3), (3, .int (x3 + (1 : Int32)))]) [2, 3, 1, 0] rfl ?_
        exact ih x1 v3 (x3 + (1 : Int32)) M
def F_Stand_heardBits (N : Nat) (x1 : Int32) (M : mj_M) : Option (Int32 × mj_M) :=
    F_Stand_heardBits_b4 N N x1 (0 : Int32) (0 : Int32) M
set_option maxRecDepth 20000 in
theorem T_Stand_heardBits {g : mj_G} (N : Nat) : ∀ d, 1 ≤ d → ∀ (x1 : Int32) (M : mj_M), mj_Mt g (mj_qI g) d y_Stand_heardBits c_Stand_heardBits 4 (some .int) [.ref 20, .int x1] M (F_Stand_heardBits N x1 M) := by
  intro d hd x1 M
  obtain ⟨e, rfl⟩ : ∃ e, d = e + 1 := ⟨d - 1, by omega⟩
  have he : 0 ≤ e := by omega
  refine mj_met (by decide +kernel) (Nat.le_of_ble_eq_true rfl) ?_
  unfold F_Stand_heardBits
  refine mj_L (L' := [(0, .ref 20), (1, .int x1)]) [0, 1] rfl ?_
  refine mj_iconst (pc := 0) (v := (0 : Int32)) (by decide) dd_Stand_heardBits_0 ?_
  refine mj_istore_n (pc := 1) (by decide) dd_Stand_heardBits_1 ?_
  refine mj_L (L' := [(2, .int (0 : Int32)), (0, .ref 20), (1, .int x1)]) [0, 1, 2] rfl ?_
  refine mj_iconst (pc := 2) (v := (0 : Int32)) (by decide) dd_Stand_heardBits_2 ?_
  refine mj_istore_n (pc := 3) (by decide) dd_Stand_heardBits_3 ?_
  refine mj_L (L' := [(3, .int (0 : Int32)), (2, .int (0 : Int32)), (0, .ref 20), (1, .int x1)]) [0, 1, 2, 3] rfl ?_
  refine mj_L (L' := [(0, .ref 20), (1, .int x1), (2, .int (0 : Int32)), (3, .int (0 : Int32))]) [2, 3, 1, 0] rfl ?_
  exact T_Stand_heardBits_b4 (g := g) N e he N x1 (0 : Int32) (0 : Int32) M
def F_W_house (N : Nat) (x1 : Int32) (x2 : Int32) (M : mj_M) : Option (Int32 × mj_M) :=
    (F_Coast_hasHouse x1 M).bind (fun q1 =>
     if q1.1 = (0) then
     (some ((-1 : Int32), q1.2))
     else
     (if x2 = (0 : Int32) then
     ((F_Stand_heardBits N x1 q1.2).bind (fun q4 =>
     some (q4.1, q4.2)))
     else
     (if x2 = (1 : Int32) then
     (mj_ck x1 6 (
     some (q1.2 15 x1.toNatClampNeg, q1.2)))
     else
     (if x2 = (2 : Int32) then
     (mj_ck x1 6 (
     some (q1.2 16 x1.toNatClampNeg, q1.2)))
     else
     (some ((-1 : Int32), q1.2))))))
set_option maxRecDepth 20000 in
theorem T_W_house {g : mj_G} (N : Nat) : ∀ d, 2 ≤ d → ∀ (x1 : Int32) (x2 : Int32) (M : mj_M), mj_Mt g (mj_qI g) d y_W_house c_W_house 3 (some .int) [.ref 0, .int x1, .int x2] M (F_W_house N x1 x2 M) := by
  intro d hd x1 x2 M
  obtain ⟨e, rfl⟩ : ∃ e, d = e + 1 := ⟨d - 1, by omega⟩
  have he : 1 ≤ e := by omega
  refine mj_met (by decide +kernel) (Nat.le_of_ble_eq_true rfl) ?_
  unfold F_W_house
  refine mj_L (L' := [(0, .ref 0), (1, .int x1), (2, .int x2)]) [0, 1, 2] rfl ?_
  refine mj_aload_n (pc := 0) (i := 0) rfl dd_W_house_0 ?_
  refine mj_getR (pc := 1) (b := 0) (k := 4) qf_W_42 sh_0 cl_11 rfl (by decide) (r := 13) rfl dd_W_house_1 ?_
  refine mj_iload_n (pc := 4) (i := 1) rfl dd_W_house_4 ?_
  refine mj_callVI (pc := 5) (idx := 150) (b := 13) (As := [.int x1]) (st := []) sh_13 cl_0 ev_Coast_hasHouse ql_W_150 rfl (Nat.le_of_ble_eq_true rfl) (T_Coast_hasHouse (g := g) e (by omega) x1 M) dd_W_house_5 (fun q1 hq1 => ?_)
  refine mj_if_ne (pc := 8) (tgt := 13) dd_W_house_8 rfl (fun h2 => ?_) (fun h2 => ?_)
  · refine mj_iconst (pc := 11) (v := (-1 : Int32)) (by decide) dd_W_house_11 ?_
    exact mj_iret dd_W_house_12 rfl rfl
  · refine mj_iload_n (pc := 13) (i := 2) rfl dd_W_house_13 ?_
    refine mj_ife (fun h3 => ?_) (fun h3 => ?_)
    · refine mj_tswK (pc := 14) (tgt := 40) (k := (0 : Int32)) (off := 26) h3 dd_W_house_14 (by decide) (by decide) rfl rfl ?_
      refine mj_aload_n (pc := 40) (i := 0) rfl dd_W_house_40 ?_
      refine mj_getR (pc := 41) (b := 0) (k := 5) qf_W_49 sh_0 cl_11 rfl (by decide) (r := 20) rfl dd_W_house_41 ?_
      refine mj_iload_n (pc := 44) (i := 1) rfl dd_W_house_44 ?_
      refine mj_callVI (pc := 45) (idx := 154) (b := 20) (As := [.int x1]) (st := []) sh_20 cl_8 ev_Stand_heardBits ql_W_154 rfl (Nat.le_of_ble_eq_true rfl) (T_Stand_heardBits (g := g) N e (by omega) x1 q1.2) dd_W_house_45 (fun q4 hq4 => ?_)
      exact mj_iret dd_W_house_48 rfl rfl
    · refine mj_ife (fun h5 => ?_) (fun h5 => ?_)
      · refine mj_tswK (pc := 14) (tgt := 49) (k := (1 : Int32)) (off := 35) h5 dd_W_house_14 (by decide) (by decide) rfl rfl ?_
        refine mj_aload_n (pc := 49) (i := 0) rfl dd_W_house_49 ?_
        refine mj_getR (pc := 50) (b := 0) (k := 4) qf_W_42 sh_0 cl_11 rfl (by decide) (r := 13) rfl dd_W_house_50 ?_
        refine mj_getR (pc := 53) (b := 13) (k := 7) qf_W_157 sh_13 cl_0 rfl (by decide) (r := 15) rfl dd_W_house_53 ?_
        refine mj_iload_n (pc := 56) (i := 1) rfl dd_W_house_56 ?_
        refine mj_iald (pc := 57) sh_15 dd_W_house_57 ?_
        exact mj_iret dd_W_house_58 rfl rfl
      · refine mj_ife (fun h6 => ?_) (fun h6 => ?_)
        · refine mj_tswK (pc := 14) (tgt := 59) (k := (2 : Int32)) (off := 45) h6 dd_W_house_14 (by decide) (by decide) rfl rfl ?_
          refine mj_aload_n (pc := 59) (i := 0) rfl dd_W_house_59 ?_
          refine mj_getR (pc := 60) (b := 0) (k := 4) qf_W_42 sh_0 cl_11 rfl (by decide) (r := 13) rfl dd_W_house_60 ?_
          refine mj_getR (pc := 63) (b := 13) (k := 8) qf_W_160 sh_13 cl_0 rfl (by decide) (r := 16) rfl dd_W_house_63 ?_
          refine mj_iload_n (pc := 66) (i := 1) rfl dd_W_house_66 ?_
          refine mj_iald (pc := 67) sh_16 dd_W_house_67 ?_
          exact mj_iret dd_W_house_68 rfl rfl
        · refine mj_tswD (pc := 14) (tgt := 69) [0, 1, 2] (mj_k1 (mj_ni (k := (0 : Int32)) (n := 0) (by decide) h3) (mj_k1 (mj_ni (k := (1 : Int32)) (n := 1) (by decide) h5) (mj_k1 (mj_ni (k := (2 : Int32)) (n := 2) (by decide) h6) mj_k0))) dd_W_house_14 (by decide) (by decide) rfl ?_
          refine mj_iconst (pc := 69) (v := (-1 : Int32)) (by decide) dd_W_house_69 ?_
          exact mj_iret dd_W_house_70 rfl rfl
def F_M_isHouse (x1 : Int32) (M : mj_M) : Option (Int32 × mj_M) :=
    (F_M_in x1 (0 : Int32) ((M 48 25) - (1 : Int32)) M).bind (fun q1 =>
     some (q1.1, q1.2))
set_option maxRecDepth 20000 in
theorem T_M_isHouse {g : mj_G} : ∀ d, 2 ≤ d → ∀ (x1 : Int32) (M : mj_M), mj_Mt g (mj_qI g) d y_M_isHouse c_M_isHouse 2 (some .boolean) [.ref 48, .int x1] M (F_M_isHouse x1 M) := by
  intro d hd x1 M
  obtain ⟨e, rfl⟩ : ∃ e, d = e + 1 := ⟨d - 1, by omega⟩
  have he : 1 ≤ e := by omega
  refine mj_met (by decide +kernel) (Nat.le_of_ble_eq_true rfl) ?_
  unfold F_M_isHouse
  refine mj_L (L' := [(0, .ref 48), (1, .int x1)]) [0, 1] rfl ?_
  refine mj_iload_n (pc := 0) (i := 1) rfl dd_M_isHouse_0 ?_
  refine mj_iconst (pc := 1) (v := (0 : Int32)) (by decide) dd_M_isHouse_1 ?_
  refine mj_aload_n (pc := 2) (i := 0) rfl dd_M_isHouse_2 ?_
  refine mj_getI (pc := 3) (b := 48) (k := 25) qf_M_242 sh_48 cl_12 rfl (by decide) rfl dd_M_isHouse_3 ?_
  refine mj_iconst (pc := 6) (v := (1 : Int32)) (by decide) dd_M_isHouse_6 ?_
  refine mj_isub (pc := 7) dd_M_isHouse_7 ?_
  refine mj_callSI (pc := 8) (idx := 205) (As := [.int x1, .int (0 : Int32), .int ((M 48 25) - (1 : Int32))]) (st := []) es_M_in ql_M_205 rfl (Nat.le_of_ble_eq_true rfl) (T_M_in (g := g) e (by omega) x1 (0 : Int32) ((M 48 25) - (1 : Int32)) M) dd_M_isHouse_8 (fun q1 hq1 => ?_)
  exact mj_zret (B_M_in hq1) dd_M_isHouse_11 rfl rfl
def F_M_heardOf (x1 : Int32) (x2 : Int32) (M : mj_M) : Option (Int32 × mj_M) :=
    mj_ck (((0 : Int32) + ((6 : Int32) * x1)) + x2) 229 (
     some (M 65 (((0 : Int32) + ((6 : Int32) * x1)) + x2).toNatClampNeg, M))
set_option maxRecDepth 20000 in
theorem T_M_heardOf {g : mj_G} : ∀ d, 1 ≤ d → ∀ (x1 : Int32) (x2 : Int32) (M : mj_M), mj_Mt g (mj_qI g) d y_M_heardOf c_M_heardOf 3 (some .int) [.ref 48, .int x1, .int x2] M (F_M_heardOf x1 x2 M) := by
  intro d hd x1 x2 M
  obtain ⟨e, rfl⟩ : ∃ e, d = e + 1 := ⟨d - 1, by omega⟩
  have he : 0 ≤ e := by omega
  refine mj_met (by decide +kernel) (Nat.le_of_ble_eq_true rfl) ?_
  unfold F_M_heardOf
  refine mj_L (L' := [(0, .ref 48), (1, .int x1), (2, .int x2)]) [0, 1, 2] rfl ?_
  refine mj_aload_n (pc := 0) (i := 0) rfl dd_M_heardOf_0 ?_
  refine mj_getR (pc := 1) (b := 48) (k := 27) qf_M_58 sh_48 cl_12 rfl (by decide) (r := 65) rfl dd_M_heardOf_1 ?_
  refine mj_iconst (pc := 4) (v := (0 : Int32)) (by decide) dd_M_heardOf_4 ?_
  refine mj_bipush (pc := 5) (v := (6 : Int32)) (by decide) dd_M_heardOf_5 ?_
  refine mj_iload_n (pc := 7) (i := 1) rfl dd_M_heardOf_7 ?_
  refine mj_imul (pc := 8) dd_M_heardOf_8 ?_
  refine mj_iadd (pc := 9) dd_M_heardOf_9 ?_
  refine mj_iload_n (pc := 10) (i := 2) rfl dd_M_heardOf_10 ?_
  refine mj_iadd (pc := 11) dd_M_heardOf_11 ?_
  refine mj_iald (pc := 12) sh_65 dd_M_heardOf_12 ?_
  exact mj_iret dd_M_heardOf_13 rfl rfl
def F_M_heardSet_b4 (N : Nat) : Nat → Int32 → Int32 → Int32 → mj_M → Option (Int32 × mj_M)
  | 0, _, _, _, _ => none
  | n + 1, x1, x2, x3, M =>
    if (M 48 26) ≤ x3 then
     (some (x2, M))
     else
     ((F_M_heardOf x1 x3 M).bind (fun q2 =>
     if q2.1 ≤ (0) then
     (mj_lt (x2 ||| (0 : Int32)) (fun v4 =>
     F_M_heardSet_b4 N n x1 v4 (x3 + (1 : Int32)) q2.2))
     else
     (mj_lt (x2 ||| ((1 : Int32) <<< (x3 &&& 31))) (fun v5 =>
     F_M_heardSet_b4 N n x1 v5 (x3 + (1 : Int32)) q2.2))))
set_option maxRecDepth 20000 in
theorem T_M_heardSet_b4 {g : mj_G} (N : Nat) (e : Nat) (he : 1 ≤ e) : ∀ (n : Nat) (x1 : Int32) (x2 : Int32) (x3 : Int32) (M : mj_M), mj_X g (mj_qI g) "WinterTellersModel" c_M_heardSet 4 (some .int) e 4 [(0, .ref 48), (1, .int x1), (2, .int x2), (3, .int x3)] [] M (F_M_heardSet_b4 N n x1 x2 x3 M) := by
  intro n
  induction n with
  | zero => intro x1 x2 x3 M; exact mj_none
  | succ n ih =>
    intro x1 x2 x3 M
    rw [F_M_heardSet_b4]
    refine mj_iload_n (pc := 4) (i := 3) rfl dd_M_heardSet_4 ?_
    refine mj_aload_n (pc := 5) (i := 0) rfl dd_M_heardSet_5 ?_
    refine mj_getI (pc := 6) (b := 48) (k := 26) qf_M_245 sh_48 cl_12 rfl (by decide) rfl dd_M_heardSet_6 ?_
    refine mj_icmp_ge (pc := 9) (tgt := 37) dd_M_heardSet_9 rfl (fun h1 => ?_) (fun h1 => ?_)
    · refine mj_iload_n (pc := 37) (i := 2) rfl dd_M_heardSet_37 ?_
      exact mj_iret dd_M_heardSet_38 rfl rfl
    · refine mj_iload_n (pc := 12) (i := 2) rfl dd_M_heardSet_12 ?_
      refine mj_aload_n (pc := 13) (i := 0) rfl dd_M_heardSet_13 ?_
      refine mj_iload_n (pc := 14) (i := 1) rfl dd_M_heardSet_14 ?_
      refine mj_iload_n (pc := 15) (i := 3) rfl dd_M_heardSet_15 ?_
      refine mj_callVI (pc := 16) (idx := 277) (b := 48) (As := [.int x1, .int x3]) (st := [.int x2]) sh_48 cl_12 ev_M_heardOf ql_M_277 rfl (Nat.le_of_ble_eq_true rfl) (T_M_heardOf (g := g) e (by omega) x1 x3 M) dd_M_heardSet_16 (fun q2 hq2 => ?_)
      refine mj_if_le (pc := 19) (tgt := 28) dd_M_heardSet_19 rfl (fun h3 => ?_) (fun h3 => ?_)
      · refine mj_iconst (pc := 28) (v := (0 : Int32)) (by decide) dd_M_heardSet_28 ?_
        refine mj_ior (pc := 29) dd_M_heardSet_29 ?_
        refine mj_istore_nL (pc := 30) (by decide) dd_M_heardSet_30 (fun v4 _ => ?_)
        refine mj_L (L' := [(2, .int v4), (0, .ref 48), (1, .int x1), (3, .int x3)]) [0, 1, 2, 3] rfl ?_
        refine mj_iinc (pc := 31) (i := 3) (z := (1 : Int32)) rfl (by decide) (by decide) dd_M_heardSet_31 ?_
        refine mj_L (L' := [(3, .int (x3 + (1 : Int32))), (2, .int v4), (0, .ref 48), (1, .int x1)]) [0, 1, 2, 3] rfl ?_
        refine mj_goto (pc := 34) (tgt := 4) dd_M_heardSet_34 rfl ?_
        refine mj_L (L' := [(0, .ref 48), (1, .int x1), (2, .int v4), (3, .int (x3 + (1 : Int32)))]) [2, 3, 1, 0] rfl ?_
        exact ih x1 v4 (x3 + (1 : Int32)) q2.2
      · refine mj_iconst (pc := 22) (v := (1 : Int32)) (by decide) dd_M_heardSet_22 ?_
        refine mj_iload_n (pc := 23) (i := 3) rfl dd_M_heardSet_23 ?_
        refine mj_ishl (pc := 24) dd_M_heardSet_24 ?_
        refine mj_goto (pc := 25) (tgt := 29) dd_M_heardSet_25 rfl ?_
        refine mj_ior (pc := 29) dd_M_heardSet_29 ?_
        refine mj_istore_nL (pc := 30) (by decide) dd_M_heardSet_30 (fun v5 _ => ?_)
        refine mj_L (L' := [(2, .int v5), (0, .ref 48), (1, .int x1), (3, .int x3)]) [0, 1, 2, 3] rfl ?_
        refine mj_iinc (pc := 31) (i := 3) (z := (1 : Int32)) rfl (by decide) (by decide) dd_M_heardSet_31 ?_
        refine mj_L (L' := [(3, .int (x3 + (1 : Int32))), (2, .int v5), (0, .ref 48), (1, .int x1)]) [0, 1, 2, 3] rfl ?_
        refine mj_goto (pc := 34) (tgt := 4) dd_M_heardSet_34 rfl ?_
        refine mj_L (L' := [(0, .ref 48), (1, .int x1), (2, .int v5), (3, .int (x3 + (1 : Int32)))]) [2, 3, 1, 0] rfl ?_
        exact ih x1 v5 (x3 + (1 : Int32)) q2.2
def F_M_heardSet (N : Nat) (x1 : Int32) (M : mj_M) : Option (Int32 × mj_M) :=
    F_M_heardSet_b4 N N x1 (0 : Int32) (0 : Int32) M
set_option maxRecDepth 20000 in
theorem T_M_heardSet {g : mj_G} (N : Nat) : ∀ d, 2 ≤ d → ∀ (x1 : Int32) (M : mj_M), mj_Mt g (mj_qI g) d y_M_heardSet c_M_heardSet 4 (some .int) [.ref 48, .int x1] M (F_M_heardSet N x1 M) := by
  intro d hd x1 M
  obtain ⟨e, rfl⟩ : ∃ e, d = e + 1 := ⟨d - 1, by omega⟩
  have he : 1 ≤ e := by omega
  refine mj_met (by decide +kernel) (Nat.le_of_ble_eq_true rfl) ?_
  unfold F_M_heardSet
  refine mj_L (L' := [(0, .ref 48), (1, .int x1)]) [0, 1] rfl ?_
  refine mj_iconst (pc := 0) (v := (0 : Int32)) (by decide) dd_M_heardSet_0 ?_
  refine mj_istore_n (pc := 1) (by decide) dd_M_heardSet_1 ?_
  refine mj_L (L' := [(2, .int (0 : Int32)), (0, .ref 48), (1, .int x1)]) [0, 1, 2] rfl ?_
  refine mj_iconst (pc := 2) (v := (0 : Int32)) (by decide) dd_M_heardSet_2 ?_
  refine mj_istore_n (pc := 3) (by decide) dd_M_heardSet_3 ?_
  refine mj_L (L' := [(3, .int (0 : Int32)), (2, .int (0 : Int32)), (0, .ref 48), (1, .int x1)]) [0, 1, 2, 3] rfl ?_
  refine mj_L (L' := [(0, .ref 48), (1, .int x1), (2, .int (0 : Int32)), (3, .int (0 : Int32))]) [2, 3, 1, 0] rfl ?_
  exact T_M_heardSet_b4 (g := g) N e he N x1 (0 : Int32) (0 : Int32) M
def F_M_house (N : Nat) (x1 : Int32) (x2 : Int32) (M : mj_M) : Option (Int32 × mj_M) :=
    (F_M_isHouse x1 M).bind (fun q1 =>
     if q1.1 = (0) then
     (some ((-1 : Int32), q1.2))
     else
     ((F_M_in x2 (0 : Int32) (2 : Int32) q1.2).bind (fun q3 =>
     if q3.1 = (0) then
     (some ((-1 : Int32), q3.2))
     else
     (if x2 = (0) then
     ((F_M_heardSet N x1 q3.2).bind (fun q7 =>
     some (q7.1, q7.2)))
     else
     ((F_M_ofHouse x1 x2 q3.2).bind (fun q6 =>
     some (q6.1, q6.2)))))))
set_option maxRecDepth 20000 in
theorem T_M_house {g : mj_G} (N : Nat) : ∀ d, 3 ≤ d → ∀ (x1 : Int32) (x2 : Int32) (M : mj_M), mj_Mt g (mj_qI g) d y_M_house c_M_house 3 (some .int) [.ref 48, .int x1, .int x2] M (F_M_house N x1 x2 M) := by
  intro d hd x1 x2 M
  obtain ⟨e, rfl⟩ : ∃ e, d = e + 1 := ⟨d - 1, by omega⟩
  have he : 2 ≤ e := by omega
  refine mj_met (by decide +kernel) (Nat.le_of_ble_eq_true rfl) ?_
  unfold F_M_house
  refine mj_L (L' := [(0, .ref 48), (1, .int x1), (2, .int x2)]) [0, 1, 2] rfl ?_
  refine mj_aload_n (pc := 0) (i := 0) rfl dd_M_house_0 ?_
  refine mj_iload_n (pc := 1) (i := 1) rfl dd_M_house_1 ?_
  refine mj_callVI (pc := 2) (idx := 300) (b := 48) (As := [.int x1]) (st := []) sh_48 cl_12 ev_M_isHouse ql_M_300 rfl (Nat.le_of_ble_eq_true rfl) (T_M_isHouse (g := g) e (by omega) x1 M) dd_M_house_2 (fun q1 hq1 => ?_)
  refine mj_if_eq (pc := 5) (tgt := 17) dd_M_house_5 rfl (fun h2 => ?_) (fun h2 => ?_)
  · refine mj_iconst (pc := 17) (v := (-1 : Int32)) (by decide) dd_M_house_17 ?_
    refine mj_goto (pc := 18) (tgt := 39) dd_M_house_18 rfl ?_
    exact mj_iret dd_M_house_39 rfl rfl
  · refine mj_iload_n (pc := 8) (i := 2) rfl dd_M_house_8 ?_
    refine mj_iconst (pc := 9) (v := (0 : Int32)) (by decide) dd_M_house_9 ?_
    refine mj_iconst (pc := 10) (v := (2 : Int32)) (by decide) dd_M_house_10 ?_
    refine mj_callSI (pc := 11) (idx := 205) (As := [.int x2, .int (0 : Int32), .int (2 : Int32)]) (st := []) es_M_in ql_M_205 rfl (Nat.le_of_ble_eq_true rfl) (T_M_in (g := g) e (by omega) x2 (0 : Int32) (2 : Int32) q1.2) dd_M_house_11 (fun q3 hq3 => ?_)
    refine mj_if_ne (pc := 14) (tgt := 21) dd_M_house_14 rfl (fun h4 => ?_) (fun h4 => ?_)
    · refine mj_iconst (pc := 17) (v := (-1 : Int32)) (by decide) dd_M_house_17 ?_
      refine mj_goto (pc := 18) (tgt := 39) dd_M_house_18 rfl ?_
      exact mj_iret dd_M_house_39 rfl rfl
    · refine mj_iload_n (pc := 21) (i := 2) rfl dd_M_house_21 ?_
      refine mj_if_ne (pc := 22) (tgt := 33) dd_M_house_22 rfl (fun h5 => ?_) (fun h5 => ?_)
      · refine mj_aload_n (pc := 25) (i := 0) rfl dd_M_house_25 ?_
        refine mj_iload_n (pc := 26) (i := 1) rfl dd_M_house_26 ?_
        refine mj_callVI (pc := 27) (idx := 303) (b := 48) (As := [.int x1]) (st := []) sh_48 cl_12 ev_M_heardSet ql_M_303 rfl (Nat.le_of_ble_eq_true rfl) (T_M_heardSet (g := g) N e (by omega) x1 q3.2) dd_M_house_27 (fun q7 hq7 => ?_)
        refine mj_goto (pc := 30) (tgt := 39) dd_M_house_30 rfl ?_
        exact mj_iret dd_M_house_39 rfl rfl
      · refine mj_aload_n (pc := 33) (i := 0) rfl dd_M_house_33 ?_
        refine mj_iload_n (pc := 34) (i := 1) rfl dd_M_house_34 ?_
        refine mj_iload_n (pc := 35) (i := 2) rfl dd_M_house_35 ?_
        refine mj_callVI (pc := 36) (idx := 251) (b := 48) (As := [.int x1, .int x2]) (st := []) sh_48 cl_12 ev_M_ofHouse ql_M_251 rfl (Nat.le_of_ble_eq_true rfl) (T_M_ofHouse (g := g) e (by omega) x1 x2 q3.2) dd_M_house_36 (fun q6 hq6 => ?_)
        exact mj_iret dd_M_house_39 rfl rfl
def F_M_isTale (x1 : Int32) (M : mj_M) : Option (Int32 × mj_M) :=
    (F_M_in x1 (0 : Int32) ((M 48 26) - (1 : Int32)) M).bind (fun q1 =>
     some (q1.1, q1.2))
set_option maxRecDepth 20000 in
theorem T_M_isTale {g : mj_G} : ∀ d, 2 ≤ d → ∀ (x1 : Int32) (M : mj_M), mj_Mt g (mj_qI g) d y_M_isTale c_M_isTale 2 (some .boolean) [.ref 48, .int x1] M (F_M_isTale x1 M) := by
  intro d hd x1 M
  obtain ⟨e, rfl⟩ : ∃ e, d = e + 1 := ⟨d - 1, by omega⟩
  have he : 1 ≤ e := by omega
  refine mj_met (by decide +kernel) (Nat.le_of_ble_eq_true rfl) ?_
  unfold F_M_isTale
  refine mj_L (L' := [(0, .ref 48), (1, .int x1)]) [0, 1] rfl ?_
  refine mj_iload_n (pc := 0) (i := 1) rfl dd_M_isTale_0 ?_
  refine mj_iconst (pc := 1) (v := (0 : Int32)) (by decide) dd_M_isTale_1 ?_
  refine mj_aload_n (pc := 2) (i := 0) rfl dd_M_isTale_2 ?_
  refine mj_getI (pc := 3) (b := 48) (k := 26) qf_M_245 sh_48 cl_12 rfl (by decide) rfl dd_M_isTale_3 ?_
  refine mj_iconst (pc := 6) (v := (1 : Int32)) (by decide) dd_M_isTale_6 ?_
  refine mj_isub (pc := 7) dd_M_isTale_7 ?_
  refine mj_callSI (pc := 8) (idx := 205) (As := [.int x1, .int (0 : Int32), .int ((M 48 26) - (1 : Int32))]) (st := []) es_M_in ql_M_205 rfl (Nat.le_of_ble_eq_true rfl) (T_M_in (g := g) e (by omega) x1 (0 : Int32) ((M 48 26) - (1 : Int32)) M) dd_M_isTale_8 (fun q1 hq1 => ?_)
  exact mj_zret (B_M_in hq1) dd_M_isTale_11 rfl rfl
def F_M_owns (x1 : Int32) (M : mj_M) : Option (Int32 × mj_M) :=
    (F_M_has (M 65 43) x1 M).bind (fun q1 =>
     some (q1.1, q1.2))
set_option maxRecDepth 20000 in
theorem T_M_owns {g : mj_G} : ∀ d, 2 ≤ d → ∀ (x1 : Int32) (M : mj_M), mj_Mt g (mj_qI g) d y_M_owns c_M_owns 2 (some .boolean) [.ref 48, .int x1] M (F_M_owns x1 M) := by
  intro d hd x1 M
  obtain ⟨e, rfl⟩ : ∃ e, d = e + 1 := ⟨d - 1, by omega⟩
  have he : 1 ≤ e := by omega
  refine mj_met (by decide +kernel) (Nat.le_of_ble_eq_true rfl) ?_
  unfold F_M_owns
  refine mj_L (L' := [(0, .ref 48), (1, .int x1)]) [0, 1] rfl ?_
  refine mj_aload_n (pc := 0) (i := 0) rfl dd_M_owns_0 ?_
  refine mj_getR (pc := 1) (b := 48) (k := 27) qf_M_58 sh_48 cl_12 rfl (by decide) (r := 65) rfl dd_M_owns_1 ?_
  refine mj_bipush (pc := 4) (v := (43 : Int32)) (by decide) dd_M_owns_4 ?_
  refine mj_ialdK (pc := 6) (j := 43) sh_65 (by decide) rfl dd_M_owns_6 ?_
  refine mj_iload_n (pc := 7) (i := 1) rfl dd_M_owns_7 ?_
  refine mj_callSI (pc := 8) (idx := 216) (As := [.int (M 65 43), .int x1]) (st := []) es_M_has ql_M_216 rfl (Nat.le_of_ble_eq_true rfl) (T_M_has (g := g) e (by omega) (M 65 43) x1 M) dd_M_owns_8 (fun q1 hq1 => ?_)
  exact mj_zret (B_M_has hq1) dd_M_owns_11 rfl rfl
def F_M_tale_b23 (x1 : Int32) (x2 : Int32) (s1 : Int32) (M : mj_M) : Option (Int32 × mj_M) :=
    mj_lt (mj_u M 48 0 s1) (fun M5 =>
     if (M5 48 0) = (1 : Int32) then
     (some ((0 : Int32), M5))
     else
     (if x2 = (1 : Int32) then
     (mj_ck ((36 : Int32) + x1) 229 (
     some (M5 65 ((36 : Int32) + x1).toNatClampNeg, M5)))
     else
     (if x2 = (3 : Int32) then
     ((F_M_owns x1 M5).bind (fun q9 =>
     if q9.1 = (0) then
     (some ((0 : Int32), q9.2))
     else
     (some ((1 : Int32), q9.2))))
     else
     ((F_M_ofTale x1 x2 M5).bind (fun q11 =>
     some (q11.1, q11.2))))))
set_option maxRecDepth 20000 in
theorem T_M_tale_b23 {g : mj_G} (e : Nat) (he : 2 ≤ e) (x1 : Int32) (x2 : Int32) (s1 : Int32) (M : mj_M) : mj_X g (mj_qI g) "WinterTellersModel" c_M_tale 3 (some .int) e 23 [(0, .ref 48), (1, .int x1), (2, .int x2)] [.int s1, .ref 48] M (F_M_tale_b23 x1 x2 s1 M) := by
  unfold F_M_tale_b23
  refine mj_putI (pc := 23) (b := 48) (k := 0) qf_M_90 sh_48 cl_12 rfl (by decide) (by decide) rfl rfl rfl dd_M_tale_23 (fun M5 _ => ?_)
  refine mj_aload_n (pc := 26) (i := 0) rfl dd_M_tale_26 ?_
  refine mj_getI (pc := 27) (b := 48) (k := 0) qf_M_90 sh_48 cl_12 rfl (by decide) rfl dd_M_tale_27 ?_
  refine mj_iconst (pc := 30) (v := (1 : Int32)) (by decide) dd_M_tale_30 ?_
  refine mj_icmp_ne (pc := 31) (tgt := 36) dd_M_tale_31 rfl (fun h6 => ?_) (fun h6 => ?_)
  · refine mj_iconst (pc := 34) (v := (0 : Int32)) (by decide) dd_M_tale_34 ?_
    exact mj_iret dd_M_tale_35 rfl rfl
  · refine mj_iload_n (pc := 36) (i := 2) rfl dd_M_tale_36 ?_
    refine mj_ife (fun h7 => ?_) (fun h7 => ?_)
    · refine mj_lswK (pc := 37) (tgt := 64) (k := (1 : Int32)) (off := 27) h7 dd_M_tale_37 (by decide) (by decide) rfl ?_
      refine mj_aload_n (pc := 64) (i := 0) rfl dd_M_tale_64 ?_
      refine mj_getR (pc := 65) (b := 48) (k := 27) qf_M_58 sh_48 cl_12 rfl (by decide) (r := 65) rfl dd_M_tale_65 ?_
      refine mj_bipush (pc := 68) (v := (36 : Int32)) (by decide) dd_M_tale_68 ?_
      refine mj_iload_n (pc := 70) (i := 1) rfl dd_M_tale_70 ?_
      refine mj_iadd (pc := 71) dd_M_tale_71 ?_
      refine mj_iald (pc := 72) sh_65 dd_M_tale_72 ?_
      exact mj_iret dd_M_tale_73 rfl rfl
    · refine mj_ife (fun h8 => ?_) (fun h8 => ?_)
      · refine mj_lswK (pc := 37) (tgt := 74) (k := (3 : Int32)) (off := 37) h8 dd_M_tale_37 (by decide) (by decide) rfl ?_
        refine mj_aload_n (pc := 74) (i := 0) rfl dd_M_tale_74 ?_
        refine mj_iload_n (pc := 75) (i := 1) rfl dd_M_tale_75 ?_
        refine mj_callVI (pc := 76) (idx := 309) (b := 48) (As := [.int x1]) (st := []) sh_48 cl_12 ev_M_owns ql_M_309 rfl (Nat.le_of_ble_eq_true rfl) (T_M_owns (g := g) e (by omega) x1 M5) dd_M_tale_76 (fun q9 hq9 => ?_)
        refine mj_if_eq (pc := 79) (tgt := 86) dd_M_tale_79 rfl (fun h10 => ?_) (fun h10 => ?_)
        · refine mj_iconst (pc := 86) (v := (0 : Int32)) (by decide) dd_M_tale_86 ?_
          exact mj_iret dd_M_tale_87 rfl rfl
        · refine mj_iconst (pc := 82) (v := (1 : Int32)) (by decide) dd_M_tale_82 ?_
          refine mj_goto (pc := 83) (tgt := 87) dd_M_tale_83 rfl ?_
          exact mj_iret dd_M_tale_87 rfl rfl
      · refine mj_lswD (pc := 37) (tgt := 88) (ps := #[(1, 27), (3, 37)]) (mj_k1 (mj_ni (k := (1 : Int32)) (n := 1) (by decide) h7) (mj_k1 (mj_ni (k := (3 : Int32)) (n := 3) (by decide) h8) mj_k0)) dd_M_tale_37 (by decide) rfl ?_
        refine mj_aload_n (pc := 88) (i := 0) rfl dd_M_tale_88 ?_
        refine mj_iload_n (pc := 89) (i := 1) rfl dd_M_tale_89 ?_
        refine mj_iload_n (pc := 90) (i := 2) rfl dd_M_tale_90 ?_
        refine mj_callVI (pc := 91) (idx := 248) (b := 48) (As := [.int x1, .int x2]) (st := []) sh_48 cl_12 ev_M_ofTale ql_M_248 rfl (Nat.le_of_ble_eq_true rfl) (T_M_ofTale (g := g) e (by omega) x1 x2 M5) dd_M_tale_91 (fun q11 hq11 => ?_)
        exact mj_iret dd_M_tale_94 rfl rfl
def F_M_tale_b22 (x1 : Int32) (x2 : Int32) (M : mj_M) : Option (Int32 × mj_M) :=
    F_M_tale_b23 x1 x2 (1 : Int32) M
set_option maxRecDepth 20000 in
theorem T_M_tale_b22 {g : mj_G} (e : Nat) (he : 2 ≤ e) (x1 : Int32) (x2 : Int32) (M : mj_M) : mj_X g (mj_qI g) "WinterTellersModel" c_M_tale 3 (some .int) e 22 [(0, .ref 48), (1, .int x1), (2, .int x2)] [.ref 48] M (F_M_tale_b22 x1 x2 M) := by
  unfold F_M_tale_b22
  refine mj_iconst (pc := 22) (v := (1 : Int32)) (by decide) dd_M_tale_22 ?_
  refine mj_L (L' := [(0, .ref 48), (1, .int x1), (2, .int x2)]) [0, 1, 2] rfl ?_
  exact T_M_tale_b23 (g := g) e he x1 x2 (1 : Int32) M
def F_M_tale (x1 : Int32) (x2 : Int32) (M : mj_M) : Option (Int32 × mj_M) :=
    (F_M_isTale x1 M).bind (fun q1 =>
     if q1.1 = (0) then
     (F_M_tale_b22 x1 x2 q1.2)
     else
     ((F_M_in x2 (0 : Int32) (3 : Int32) q1.2).bind (fun q3 =>
     if q3.1 = (0) then
     (F_M_tale_b22 x1 x2 q3.2)
     else
     (F_M_tale_b23 x1 x2 (0 : Int32) q3.2))))
set_option maxRecDepth 20000 in
theorem T_M_tale {g : mj_G} : ∀ d, 3 ≤ d → ∀ (x1 : Int32) (x2 : Int32) (M : mj_M), mj_Mt g (mj_qI g) d y_M_tale c_M_tale 3 (some .int) [.ref 48, .int x1, .int x2] M (F_M_tale x1 x2 M) := by
  intro d hd x1 x2 M
  obtain ⟨e, rfl⟩ : ∃ e, d = e + 1 := ⟨d - 1, by omega⟩
  have he : 2 ≤ e := by omega
  refine mj_met (by decide +kernel) (Nat.le_of_ble_eq_true rfl) ?_
  unfold F_M_tale
  refine mj_L (L' := [(0, .ref 48), (1, .int x1), (2, .int x2)]) [0, 1, 2] rfl ?_
  refine mj_aload_n (pc := 0) (i := 0) rfl dd_M_tale_0 ?_
  refine mj_aload_n (pc := 1) (i := 0) rfl dd_M_tale_1 ?_
  refine mj_iload_n (pc := 2) (i := 1) rfl dd_M_tale_2 ?_
  refine mj_callVI (pc := 3) (idx := 306) (b := 48) (As := [.int x1]) (st := [.ref 48]) sh_48 cl_12 ev_M_isTale ql_M_306 rfl (Nat.le_of_ble_eq_true rfl) (T_M_isTale (g := g) e (by omega) x1 M) dd_M_tale_3 (fun q1 hq1 => ?_)
  refine mj_if_eq (pc := 6) (tgt := 22) dd_M_tale_6 rfl (fun h2 => ?_) (fun h2 => ?_)
  · refine mj_L (L' := [(0, .ref 48), (1, .int x1), (2, .int x2)]) [0, 1, 2] rfl ?_
    exact T_M_tale_b22 (g := g) e he x1 x2 q1.2
  · refine mj_iload_n (pc := 9) (i := 2) rfl dd_M_tale_9 ?_
    refine mj_iconst (pc := 10) (v := (0 : Int32)) (by decide) dd_M_tale_10 ?_
    refine mj_iconst (pc := 11) (v := (3 : Int32)) (by decide) dd_M_tale_11 ?_
    refine mj_callSI (pc := 12) (idx := 205) (As := [.int x2, .int (0 : Int32), .int (3 : Int32)]) (st := [.ref 48]) es_M_in ql_M_205 rfl (Nat.le_of_ble_eq_true rfl) (T_M_in (g := g) e (by omega) x2 (0 : Int32) (3 : Int32) q1.2) dd_M_tale_12 (fun q3 hq3 => ?_)
    refine mj_if_eq (pc := 15) (tgt := 22) dd_M_tale_15 rfl (fun h4 => ?_) (fun h4 => ?_)
    · refine mj_L (L' := [(0, .ref 48), (1, .int x1), (2, .int x2)]) [0, 1, 2] rfl ?_
      exact T_M_tale_b22 (g := g) e he x1 x2 q3.2
    · refine mj_iconst (pc := 18) (v := (0 : Int32)) (by decide) dd_M_tale_18 ?_
      refine mj_goto (pc := 19) (tgt := 23) dd_M_tale_19 rfl ?_
      refine mj_L (L' := [(0, .ref 48), (1, .int x1), (2, .int x2)]) [0, 1, 2] rfl ?_
      exact T_M_tale_b23 (g := g) e he x1 x2 (0 : Int32) q3.2
def F_M_thrown (M : mj_M) : Option (Int32 × mj_M) :=
    some (M 48 0, M)
set_option maxRecDepth 20000 in
theorem T_M_thrown {g : mj_G} : ∀ d, 1 ≤ d → ∀ (M : mj_M), mj_Mt g (mj_qI g) d y_M_thrown c_M_thrown 1 (some .int) [.ref 48] M (F_M_thrown M) := by
  intro d hd M
  obtain ⟨e, rfl⟩ : ∃ e, d = e + 1 := ⟨d - 1, by omega⟩
  have he : 0 ≤ e := by omega
  refine mj_met (by decide +kernel) (Nat.le_of_ble_eq_true rfl) ?_
  unfold F_M_thrown
  refine mj_L (L' := [(0, .ref 48)]) [0] rfl ?_
  refine mj_aload_n (pc := 0) (i := 0) rfl dd_M_thrown_0 ?_
  refine mj_getI (pc := 1) (b := 48) (k := 0) qf_M_90 sh_48 cl_12 rfl (by decide) rfl dd_M_thrown_1 ?_
  exact mj_iret dd_M_thrown_4 rfl rfl
def F_Coast_hasTale (x1 : Int32) (M : mj_M) : Option (Int32 × mj_M) :=
    if x1 < (0) then
     (some ((0 : Int32), M))
     else
     (if (M 13 1) ≤ x1 then
     (some ((0 : Int32), M))
     else
     (some ((1 : Int32), M)))
set_option maxRecDepth 20000 in
theorem T_Coast_hasTale {g : mj_G} : ∀ d, 1 ≤ d → ∀ (x1 : Int32) (M : mj_M), mj_Mt g (mj_qI g) d y_Coast_hasTale c_Coast_hasTale 2 (some .boolean) [.ref 13, .int x1] M (F_Coast_hasTale x1 M) := by
  intro d hd x1 M
  obtain ⟨e, rfl⟩ : ∃ e, d = e + 1 := ⟨d - 1, by omega⟩
  have he : 0 ≤ e := by omega
  refine mj_met (by decide +kernel) (Nat.le_of_ble_eq_true rfl) ?_
  unfold F_Coast_hasTale
  refine mj_L (L' := [(0, .ref 13), (1, .int x1)]) [0, 1] rfl ?_
  refine mj_iload_n (pc := 0) (i := 1) rfl dd_Coast_hasTale_0 ?_
  refine mj_if_lt (pc := 1) (tgt := 16) dd_Coast_hasTale_1 rfl (fun h1 => ?_) (fun h1 => ?_)
  · refine mj_iconst (pc := 16) (v := (0 : Int32)) (by decide) dd_Coast_hasTale_16 ?_
    exact mj_zret (by decide) dd_Coast_hasTale_17 rfl rfl
  · refine mj_iload_n (pc := 4) (i := 1) rfl dd_Coast_hasTale_4 ?_
    refine mj_aload_n (pc := 5) (i := 0) rfl dd_Coast_hasTale_5 ?_
    refine mj_getI (pc := 6) (b := 13) (k := 1) qf_Coast_34 sh_13 cl_0 rfl (by decide) rfl dd_Coast_hasTale_6 ?_
    refine mj_icmp_ge (pc := 9) (tgt := 16) dd_Coast_hasTale_9 rfl (fun h2 => ?_) (fun h2 => ?_)
    · refine mj_iconst (pc := 16) (v := (0 : Int32)) (by decide) dd_Coast_hasTale_16 ?_
      exact mj_zret (by decide) dd_Coast_hasTale_17 rfl rfl
    · refine mj_iconst (pc := 12) (v := (1 : Int32)) (by decide) dd_Coast_hasTale_12 ?_
      refine mj_goto (pc := 13) (tgt := 17) dd_Coast_hasTale_13 rfl ?_
      exact mj_zret (by decide) dd_Coast_hasTale_17 rfl rfl
def F_Coast_hasBoth (x1 : Int32) (x2 : Int32) (M : mj_M) : Option (Int32 × mj_M) :=
    (F_Coast_hasHouse x1 M).bind (fun q1 =>
     if q1.1 = (0) then
     (some ((0 : Int32), q1.2))
     else
     ((F_Coast_hasTale x2 q1.2).bind (fun q3 =>
     if q3.1 = (0) then
     (some ((0 : Int32), q3.2))
     else
     (some ((1 : Int32), q3.2)))))
set_option maxRecDepth 20000 in
theorem T_Coast_hasBoth {g : mj_G} : ∀ d, 2 ≤ d → ∀ (x1 : Int32) (x2 : Int32) (M : mj_M), mj_Mt g (mj_qI g) d y_Coast_hasBoth c_Coast_hasBoth 3 (some .boolean) [.ref 13, .int x1, .int x2] M (F_Coast_hasBoth x1 x2 M) := by
  intro d hd x1 x2 M
  obtain ⟨e, rfl⟩ : ∃ e, d = e + 1 := ⟨d - 1, by omega⟩
  have he : 1 ≤ e := by omega
  refine mj_met (by decide +kernel) (Nat.le_of_ble_eq_true rfl) ?_
  unfold F_Coast_hasBoth
  refine mj_L (L' := [(0, .ref 13), (1, .int x1), (2, .int x2)]) [0, 1, 2] rfl ?_
  refine mj_aload_n (pc := 0) (i := 0) rfl dd_Coast_hasBoth_0 ?_
  refine mj_iload_n (pc := 1) (i := 1) rfl dd_Coast_hasBoth_1 ?_
  refine mj_callVI (pc := 2) (idx := 37) (b := 13) (As := [.int x1]) (st := []) sh_13 cl_0 ev_Coast_hasHouse ql_Coast_37 rfl (Nat.le_of_ble_eq_true rfl) (T_Coast_hasHouse (g := g) e (by omega) x1 M) dd_Coast_hasBoth_2 (fun q1 hq1 => ?_)
  refine mj_if_eq (pc := 5) (tgt := 20) dd_Coast_hasBoth_5 rfl (fun h2 => ?_) (fun h2 => ?_)
  · refine mj_iconst (pc := 20) (v := (0 : Int32)) (by decide) dd_Coast_hasBoth_20 ?_
    exact mj_zret (by decide) dd_Coast_hasBoth_21 rfl rfl
  · refine mj_aload_n (pc := 8) (i := 0) rfl dd_Coast_hasBoth_8 ?_
    refine mj_iload_n (pc := 9) (i := 2) rfl dd_Coast_hasBoth_9 ?_
    refine mj_callVI (pc := 10) (idx := 41) (b := 13) (As := [.int x2]) (st := []) sh_13 cl_0 ev_Coast_hasTale ql_Coast_41 rfl (Nat.le_of_ble_eq_true rfl) (T_Coast_hasTale (g := g) e (by omega) x2 q1.2) dd_Coast_hasBoth_10 (fun q3 hq3 => ?_)
    refine mj_if_eq (pc := 13) (tgt := 20) dd_Coast_hasBoth_13 rfl (fun h4 => ?_) (fun h4 => ?_)
    · refine mj_iconst (pc := 20) (v := (0 : Int32)) (by decide) dd_Coast_hasBoth_20 ?_
      exact mj_zret (by decide) dd_Coast_hasBoth_21 rfl rfl
    · refine mj_iconst (pc := 16) (v := (1 : Int32)) (by decide) dd_Coast_hasBoth_16 ?_
      refine mj_goto (pc := 17) (tgt := 21) dd_Coast_hasBoth_17 rfl ?_
      exact mj_zret (by decide) dd_Coast_hasBoth_21 rfl rfl
def F_W_heard (x1 : Int32) (x2 : Int32) (M : mj_M) : Option (Int32 × mj_M) :=
    (F_Coast_hasBoth x1 x2 M).bind (fun q1 =>
     if q1.1 = (0) then
     (some ((-1 : Int32), q1.2))
     else
     (mj_ck ((x1 * (6 : Int32)) + x2) 36 (
     some (q1.2 22 ((x1 * (6 : Int32)) + x2).toNatClampNeg, q1.2))))
set_option maxRecDepth 20000 in
theorem T_W_heard {g : mj_G} : ∀ d, 3 ≤ d → ∀ (x1 : Int32) (x2 : Int32) (M : mj_M), mj_Mt g (mj_qI g) d y_W_heard c_W_heard 3 (some .int) [.ref 0, .int x1, .int x2] M (F_W_heard x1 x2 M) := by
  intro d hd x1 x2 M
  obtain ⟨e, rfl⟩ : ∃ e, d = e + 1 := ⟨d - 1, by omega⟩
  have he : 2 ≤ e := by omega
  refine mj_met (by decide +kernel) (Nat.le_of_ble_eq_true rfl) ?_
  unfold F_W_heard
  refine mj_L (L' := [(0, .ref 0), (1, .int x1), (2, .int x2)]) [0, 1, 2] rfl ?_
  refine mj_aload_n (pc := 0) (i := 0) rfl dd_W_heard_0 ?_
  refine mj_getR (pc := 1) (b := 0) (k := 4) qf_W_42 sh_0 cl_11 rfl (by decide) (r := 13) rfl dd_W_heard_1 ?_
  refine mj_iload_n (pc := 4) (i := 1) rfl dd_W_heard_4 ?_
  refine mj_iload_n (pc := 5) (i := 2) rfl dd_W_heard_5 ?_
  refine mj_callVI (pc := 6) (idx := 181) (b := 13) (As := [.int x1, .int x2]) (st := []) sh_13 cl_0 ev_Coast_hasBoth ql_W_181 rfl (Nat.le_of_ble_eq_true rfl) (T_Coast_hasBoth (g := g) e (by omega) x1 x2 M) dd_W_heard_6 (fun q1 hq1 => ?_)
  refine mj_if_eq (pc := 9) (tgt := 29) dd_W_heard_9 rfl (fun h2 => ?_) (fun h2 => ?_)
  · refine mj_iconst (pc := 29) (v := (-1 : Int32)) (by decide) dd_W_heard_29 ?_
    exact mj_iret dd_W_heard_30 rfl rfl
  · refine mj_aload_n (pc := 12) (i := 0) rfl dd_W_heard_12 ?_
    refine mj_getR (pc := 13) (b := 0) (k := 5) qf_W_49 sh_0 cl_11 rfl (by decide) (r := 20) rfl dd_W_heard_13 ?_
    refine mj_getR (pc := 16) (b := 20) (k := 8) qf_W_185 sh_20 cl_8 rfl (by decide) (r := 22) rfl dd_W_heard_16 ?_
    refine mj_iload_n (pc := 19) (i := 1) rfl dd_W_heard_19 ?_
    refine mj_bipush (pc := 20) (v := (6 : Int32)) (by decide) dd_W_heard_20 ?_
    refine mj_imul (pc := 22) dd_W_heard_22 ?_
    refine mj_iload_n (pc := 23) (i := 2) rfl dd_W_heard_23 ?_
    refine mj_iadd (pc := 24) dd_W_heard_24 ?_
    refine mj_iald (pc := 25) sh_22 dd_W_heard_25 ?_
    refine mj_goto (pc := 26) (tgt := 30) dd_W_heard_26 rfl ?_
    exact mj_iret dd_W_heard_30 rfl rfl
def F_M_heard (x1 : Int32) (x2 : Int32) (M : mj_M) : Option (Int32 × mj_M) :=
    (F_M_isHouse x1 M).bind (fun q1 =>
     if q1.1 = (0) then
     (some ((-1 : Int32), q1.2))
     else
     ((F_M_isTale x2 q1.2).bind (fun q3 =>
     if q3.1 = (0) then
     (some ((-1 : Int32), q3.2))
     else
     ((F_M_heardOf x1 x2 q3.2).bind (fun q5 =>
     some (q5.1, q5.2))))))
set_option maxRecDepth 20000 in
theorem T_M_heard {g : mj_G} : ∀ d, 3 ≤ d → ∀ (x1 : Int32) (x2 : Int32) (M : mj_M), mj_Mt g (mj_qI g) d y_M_heard c_M_heard 3 (some .int) [.ref 48, .int x1, .int x2] M (F_M_heard x1 x2 M) := by
  intro d hd x1 x2 M
  obtain ⟨e, rfl⟩ : ∃ e, d = e + 1 := ⟨d - 1, by omega⟩
  have he : 2 ≤ e := by omega
  refine mj_met (by decide +kernel) (Nat.le_of_ble_eq_true rfl) ?_
  unfold F_M_heard
  refine mj_L (L' := [(0, .ref 48), (1, .int x1), (2, .int x2)]) [0, 1, 2] rfl ?_
  refine mj_aload_n (pc := 0) (i := 0) rfl dd_M_heard_0 ?_
  refine mj_iload_n (pc := 1) (i := 1) rfl dd_M_heard_1 ?_
  refine mj_callVI (pc := 2) (idx := 300) (b := 48) (As := [.int x1]) (st := []) sh_48 cl_12 ev_M_isHouse ql_M_300 rfl (Nat.le_of_ble_eq_true rfl) (T_M_isHouse (g := g) e (by omega) x1 M) dd_M_heard_2 (fun q1 hq1 => ?_)
  refine mj_if_eq (pc := 5) (tgt := 25) dd_M_heard_5 rfl (fun h2 => ?_) (fun h2 => ?_)
  · refine mj_iconst (pc := 25) (v := (-1 : Int32)) (by decide) dd_M_heard_25 ?_
    exact mj_iret dd_M_heard_26 rfl rfl
  · refine mj_aload_n (pc := 8) (i := 0) rfl dd_M_heard_8 ?_
    refine mj_iload_n (pc := 9) (i := 2) rfl dd_M_heard_9 ?_
    refine mj_callVI (pc := 10) (idx := 306) (b := 48) (As := [.int x2]) (st := []) sh_48 cl_12 ev_M_isTale ql_M_306 rfl (Nat.le_of_ble_eq_true rfl) (T_M_isTale (g := g) e (by omega) x2 q1.2) dd_M_heard_10 (fun q3 hq3 => ?_)
    refine mj_if_eq (pc := 13) (tgt := 25) dd_M_heard_13 rfl (fun h4 => ?_) (fun h4 => ?_)
    · refine mj_iconst (pc := 25) (v := (-1 : Int32)) (by decide) dd_M_heard_25 ?_
      exact mj_iret dd_M_heard_26 rfl rfl
    · refine mj_aload_n (pc := 16) (i := 0) rfl dd_M_heard_16 ?_
      refine mj_iload_n (pc := 17) (i := 1) rfl dd_M_heard_17 ?_
      refine mj_iload_n (pc := 18) (i := 2) rfl dd_M_heard_18 ?_
      refine mj_callVI (pc := 19) (idx := 277) (b := 48) (As := [.int x1, .int x2]) (st := []) sh_48 cl_12 ev_M_heardOf ql_M_277 rfl (Nat.le_of_ble_eq_true rfl) (T_M_heardOf (g := g) e (by omega) x1 x2 q3.2) dd_M_heard_19 (fun q5 hq5 => ?_)
      refine mj_goto (pc := 22) (tgt := 26) dd_M_heard_22 rfl ?_
      exact mj_iret dd_M_heard_26 rfl rfl
def F_Laws_held (x0 : Int64) (M : mj_M) : Option (Int32 × mj_M) :=
    if (lg_cmp x0 (1000000 : Int64)) ≤ (0) then
     (if (0) ≤ (lg_cmp x0 (-1000000 : Int64)) then
     (some (x0.toInt32, M))
     else
     (some ((-1000000 : Int32), M)))
     else
     (some ((1000000 : Int32), M))
set_option maxRecDepth 20000 in
theorem T_Laws_held {g : mj_G} : ∀ d, 1 ≤ d → ∀ (x0 : Int64) (M : mj_M), mj_Mt g (mj_qI g) d y_Laws_held c_Laws_held 2 (some .int) [.long x0] M (F_Laws_held x0 M) := by
  intro d hd x0 M
  obtain ⟨e, rfl⟩ : ∃ e, d = e + 1 := ⟨d - 1, by omega⟩
  have he : 0 ≤ e := by omega
  refine mj_met (by decide +kernel) (Nat.le_of_ble_eq_true rfl) ?_
  unfold F_Laws_held
  refine mj_L (L' := [(0, .long x0)]) [0] rfl ?_
  refine mj_lload_n (pc := 0) (i := 0) rfl dd_Laws_held_0 ?_
  refine mj_ldc2 (pc := 1) qd_Laws_53 dd_Laws_held_1 ?_
  refine mj_lcmp (pc := 4) dd_Laws_held_4 ?_
  refine mj_if_le (pc := 5) (tgt := 11) dd_Laws_held_5 rfl (fun h1 => ?_) (fun h1 => ?_)
  · refine mj_lload_n (pc := 11) (i := 0) rfl dd_Laws_held_11 ?_
    refine mj_ldc2 (pc := 12) qd_Laws_56 dd_Laws_held_12 ?_
    refine mj_lcmp (pc := 15) dd_Laws_held_15 ?_
    refine mj_if_ge (pc := 16) (tgt := 24) dd_Laws_held_16 rfl (fun h2 => ?_) (fun h2 => ?_)
    · refine mj_lload_n (pc := 24) (i := 0) rfl dd_Laws_held_24 ?_
      refine mj_l2i (pc := 25) dd_Laws_held_25 ?_
      exact mj_iret dd_Laws_held_26 rfl rfl
    · refine mj_ldc (pc := 19) qc_Laws_58 dd_Laws_held_19 ?_
      refine mj_goto (pc := 21) (tgt := 26) dd_Laws_held_21 rfl ?_
      exact mj_iret dd_Laws_held_26 rfl rfl
  · refine mj_ldc (pc := 8) qc_Laws_55 dd_Laws_held_8 ?_
    exact mj_iret dd_Laws_held_10 rfl rfl
def F_Laws_joined (x0 : Int32) (x1 : Int32) (x2 : Int32) (M : mj_M) : Option (Int32 × mj_M) :=
    if x0 = (38 : Int32) then
     (some (x1 &&& x2, M))
     else
     (if x0 = (42 : Int32) then
     ((F_Laws_held (x1.toInt64 * x2.toInt64) M).bind (fun q3 =>
     some (q3.1, q3.2)))
     else
     (if x0 = (43 : Int32) then
     ((F_Laws_held ((x1 + x2).toInt64) M).bind (fun q5 =>
     some (q5.1, q5.2)))
     else
     (if x0 = (45 : Int32) then
     ((F_Laws_held ((x1 - x2).toInt64) M).bind (fun q7 =>
     some (q7.1, q7.2)))
     else
     (if x0 = (47 : Int32) then
     (if x2 = (0) then
     (some ((0 : Int32), M))
     else
     (if x2 = 0 then none else
     some (x1 / x2, M)))
     else
     (if x0 = (60 : Int32) then
     (if x2 ≤ x1 then
     (some ((0 : Int32), M))
     else
     (some ((1 : Int32), M)))
     else
     (if x0 = (61 : Int32) then
     (if x1 = x2 then
     (some ((1 : Int32), M))
     else
     (some ((0 : Int32), M)))
     else
     (if x0 = (62 : Int32) then
     (if x1 ≤ x2 then
     (some ((0 : Int32), M))
     else
     (some ((1 : Int32), M)))
     else
     (some (x1 ||| x2, M)))))))))
set_option maxRecDepth 20000 in
theorem T_Laws_joined {g : mj_G} : ∀ d, 2 ≤ d → ∀ (x0 : Int32) (x1 : Int32) (x2 : Int32) (M : mj_M), mj_Mt g (mj_qI g) d y_Laws_joined c_Laws_joined 3 (some .int) [.int x0, .int x1, .int x2] M (F_Laws_joined x0 x1 x2 M) := by
  intro d hd x0 x1 x2 M
  obtain ⟨e, rfl⟩ : ∃ e, d = e + 1 := ⟨d - 1, by omega⟩
  have he : 1 ≤ e := by omega
  refine mj_met (by decide +kernel) (Nat.le_of_ble_eq_true rfl) ?_
  unfold F_Laws_joined
  refine mj_L (L' := [(0, .int x0), (1, .int x1), (2, .int x2)]) [0, 1, 2] rfl ?_
  refine mj_iload_n (pc := 0) (i := 0) rfl dd_Laws_joined_0 ?_
  refine mj_ife (fun h1 => ?_) (fun h1 => ?_)
  · refine mj_tswK (pc := 1) (tgt := 186) (k := (38 : Int32)) (off := 185) h1 dd_Laws_joined_1 (by decide) (by decide) rfl rfl ?_
    refine mj_iload_n (pc := 186) (i := 1) rfl dd_Laws_joined_186 ?_
    refine mj_iload_n (pc := 187) (i := 2) rfl dd_Laws_joined_187 ?_
    refine mj_iand (pc := 188) dd_Laws_joined_188 ?_
    exact mj_iret dd_Laws_joined_189 rfl rfl
  · refine mj_ife (fun h2 => ?_) (fun h2 => ?_)
    · refine mj_tswK (pc := 1) (tgt := 132) (k := (42 : Int32)) (off := 131) h2 dd_Laws_joined_1 (by decide) (by decide) rfl rfl ?_
      refine mj_iload_n (pc := 132) (i := 1) rfl dd_Laws_joined_132 ?_
      refine mj_i2l (pc := 133) dd_Laws_joined_133 ?_
      refine mj_iload_n (pc := 134) (i := 2) rfl dd_Laws_joined_134 ?_
      refine mj_i2l (pc := 135) dd_Laws_joined_135 ?_
      refine mj_lmul (pc := 136) dd_Laws_joined_136 ?_
      refine mj_callSI (pc := 137) (idx := 49) (As := [.long (x1.toInt64 * x2.toInt64)]) (st := []) es_Laws_held ql_Laws_49 rfl (Nat.le_of_ble_eq_true rfl) (T_Laws_held (g := g) e (by omega) (x1.toInt64 * x2.toInt64) M) dd_Laws_joined_137 (fun q3 hq3 => ?_)
      exact mj_iret dd_Laws_joined_140 rfl rfl
    · refine mj_ife (fun h4 => ?_) (fun h4 => ?_)
      · refine mj_tswK (pc := 1) (tgt := 116) (k := (43 : Int32)) (off := 115) h4 dd_Laws_joined_1 (by decide) (by decide) rfl rfl ?_
        refine mj_iload_n (pc := 116) (i := 1) rfl dd_Laws_joined_116 ?_
        refine mj_iload_n (pc := 117) (i := 2) rfl dd_Laws_joined_117 ?_
        refine mj_iadd (pc := 118) dd_Laws_joined_118 ?_
        refine mj_i2l (pc := 119) dd_Laws_joined_119 ?_
        refine mj_callSI (pc := 120) (idx := 49) (As := [.long ((x1 + x2).toInt64)]) (st := []) es_Laws_held ql_Laws_49 rfl (Nat.le_of_ble_eq_true rfl) (T_Laws_held (g := g) e (by omega) ((x1 + x2).toInt64) M) dd_Laws_joined_120 (fun q5 hq5 => ?_)
        exact mj_iret dd_Laws_joined_123 rfl rfl
      · refine mj_ife (fun h6 => ?_) (fun h6 => ?_)
        · refine mj_tswK (pc := 1) (tgt := 124) (k := (45 : Int32)) (off := 123) h6 dd_Laws_joined_1 (by decide) (by decide) rfl rfl ?_
          refine mj_iload_n (pc := 124) (i := 1) rfl dd_Laws_joined_124 ?_
          refine mj_iload_n (pc := 125) (i := 2) rfl dd_Laws_joined_125 ?_
          refine mj_isub (pc := 126) dd_Laws_joined_126 ?_
          refine mj_i2l (pc := 127) dd_Laws_joined_127 ?_
          refine mj_callSI (pc := 128) (idx := 49) (As := [.long ((x1 - x2).toInt64)]) (st := []) es_Laws_held ql_Laws_49 rfl (Nat.le_of_ble_eq_true rfl) (T_Laws_held (g := g) e (by omega) ((x1 - x2).toInt64) M) dd_Laws_joined_128 (fun q7 hq7 => ?_)
          exact mj_iret dd_Laws_joined_131 rfl rfl
        · refine mj_ife (fun h8 => ?_) (fun h8 => ?_)
          · refine mj_tswK (pc := 1) (tgt := 141) (k := (47 : Int32)) (off := 140) h8 dd_Laws_joined_1 (by decide) (by decide) rfl rfl ?_
            refine mj_iload_n (pc := 141) (i := 2) rfl dd_Laws_joined_141 ?_
            refine mj_if_ne (pc := 142) (tgt := 149) dd_Laws_joined_142 rfl (fun h9 => ?_) (fun h9 => ?_)
            · refine mj_iconst (pc := 145) (v := (0 : Int32)) (by decide) dd_Laws_joined_145 ?_
              refine mj_goto (pc := 146) (tgt := 152) dd_Laws_joined_146 rfl ?_
              exact mj_iret dd_Laws_joined_152 rfl rfl
            · refine mj_iload_n (pc := 149) (i := 1) rfl dd_Laws_joined_149 ?_
              refine mj_iload_n (pc := 150) (i := 2) rfl dd_Laws_joined_150 ?_
              refine mj_idiv (pc := 151) dd_Laws_joined_151 ?_
              exact mj_iret dd_Laws_joined_152 rfl rfl
          · refine mj_ife (fun h10 => ?_) (fun h10 => ?_)
            · refine mj_tswK (pc := 1) (tgt := 164) (k := (60 : Int32)) (off := 163) h10 dd_Laws_joined_1 (by decide) (by decide) rfl rfl ?_
              refine mj_iload_n (pc := 164) (i := 1) rfl dd_Laws_joined_164 ?_
              refine mj_iload_n (pc := 165) (i := 2) rfl dd_Laws_joined_165 ?_
              refine mj_icmp_ge (pc := 166) (tgt := 173) dd_Laws_joined_166 rfl (fun h11 => ?_) (fun h11 => ?_)
              · refine mj_iconst (pc := 173) (v := (0 : Int32)) (by decide) dd_Laws_joined_173 ?_
                exact mj_iret dd_Laws_joined_174 rfl rfl
              · refine mj_iconst (pc := 169) (v := (1 : Int32)) (by decide) dd_Laws_joined_169 ?_
                refine mj_goto (pc := 170) (tgt := 174) dd_Laws_joined_170 rfl ?_
                exact mj_iret dd_Laws_joined_174 rfl rfl
            · refine mj_ife (fun h12 => ?_) (fun h12 => ?_)
              · refine mj_tswK (pc := 1) (tgt := 153) (k := (61 : Int32)) (off := 152) h12 dd_Laws_joined_1 (by decide) (by decide) rfl rfl ?_
                refine mj_iload_n (pc := 153) (i := 1) rfl dd_Laws_joined_153 ?_
                refine mj_iload_n (pc := 154) (i := 2) rfl dd_Laws_joined_154 ?_
                refine mj_icmp_ne (pc := 155) (tgt := 162) dd_Laws_joined_155 rfl (fun h13 => ?_) (fun h13 => ?_)
                · refine mj_iconst (pc := 158) (v := (1 : Int32)) (by decide) dd_Laws_joined_158 ?_
                  refine mj_goto (pc := 159) (tgt := 163) dd_Laws_joined_159 rfl ?_
                  exact mj_iret dd_Laws_joined_163 rfl rfl
                · refine mj_iconst (pc := 162) (v := (0 : Int32)) (by decide) dd_Laws_joined_162 ?_
                  exact mj_iret dd_Laws_joined_163 rfl rfl
              · refine mj_ife (fun h14 => ?_) (fun h14 => ?_)
                · refine mj_tswK (pc := 1) (tgt := 175) (k := (62 : Int32)) (off := 174) h14 dd_Laws_joined_1 (by decide) (by decide) rfl rfl ?_
                  refine mj_iload_n (pc := 175) (i := 1) rfl dd_Laws_joined_175 ?_
                  refine mj_iload_n (pc := 176) (i := 2) rfl dd_Laws_joined_176 ?_
                  refine mj_icmp_le (pc := 177) (tgt := 184) dd_Laws_joined_177 rfl (fun h15 => ?_) (fun h15 => ?_)
                  · refine mj_iconst (pc := 184) (v := (0 : Int32)) (by decide) dd_Laws_joined_184 ?_
                    exact mj_iret dd_Laws_joined_185 rfl rfl
                  · refine mj_iconst (pc := 180) (v := (1 : Int32)) (by decide) dd_Laws_joined_180 ?_
                    refine mj_goto (pc := 181) (tgt := 185) dd_Laws_joined_181 rfl ?_
                    exact mj_iret dd_Laws_joined_185 rfl rfl
                · refine mj_tswD (pc := 1) (tgt := 190) [38, 42, 43, 45, 47, 60, 61, 62] (mj_k1 (mj_ni (k := (38 : Int32)) (n := 38) (by decide) h1) (mj_k1 (mj_ni (k := (42 : Int32)) (n := 42) (by decide) h2) (mj_k1 (mj_ni (k := (43 : Int32)) (n := 43) (by decide) h4) (mj_k1 (mj_ni (k := (45 : Int32)) (n := 45) (by decide) h6) (mj_k1 (mj_ni (k := (47 : Int32)) (n := 47) (by decide) h8) (mj_k1 (mj_ni (k := (60 : Int32)) (n := 60) (by decide) h10) (mj_k1 (mj_ni (k := (61 : Int32)) (n := 61) (by decide) h12) (mj_k1 (mj_ni (k := (62 : Int32)) (n := 62) (by decide) h14) mj_k0)))))))) dd_Laws_joined_1 (by decide) (by decide) rfl ?_
                  refine mj_iload_n (pc := 190) (i := 1) rfl dd_Laws_joined_190 ?_
                  refine mj_iload_n (pc := 191) (i := 2) rfl dd_Laws_joined_191 ?_
                  refine mj_ior (pc := 192) dd_Laws_joined_192 ?_
                  exact mj_iret dd_Laws_joined_193 rfl rfl
def F_Laws_operand (x1 : Int32) (x2 : Int32) (M : mj_M) : Option (Int32 × mj_M) :=
    if x1 = (48 : Int32) then
     (some (x2, M))
     else
     (if x2 < (0) then
     (some ((0 : Int32), M))
     else
     (if (6 : Int32) ≤ x2 then
     (some ((0 : Int32), M))
     else
     (mj_ck x2 6 (
     some (M 9 x2.toNatClampNeg, M)))))
set_option maxRecDepth 20000 in
theorem T_Laws_operand {g : mj_G} : ∀ d, 1 ≤ d → ∀ (x1 : Int32) (x2 : Int32) (M : mj_M), mj_Mt g (mj_qI g) d y_Laws_operand c_Laws_operand 3 (some .int) [.ref 8, .int x1, .int x2] M (F_Laws_operand x1 x2 M) := by
  intro d hd x1 x2 M
  obtain ⟨e, rfl⟩ : ∃ e, d = e + 1 := ⟨d - 1, by omega⟩
  have he : 0 ≤ e := by omega
  refine mj_met (by decide +kernel) (Nat.le_of_ble_eq_true rfl) ?_
  unfold F_Laws_operand
  refine mj_L (L' := [(0, .ref 8), (1, .int x1), (2, .int x2)]) [0, 1, 2] rfl ?_
  refine mj_iload_n (pc := 0) (i := 1) rfl dd_Laws_operand_0 ?_
  refine mj_bipush (pc := 1) (v := (48 : Int32)) (by decide) dd_Laws_operand_1 ?_
  refine mj_icmp_ne (pc := 3) (tgt := 8) dd_Laws_operand_3 rfl (fun h1 => ?_) (fun h1 => ?_)
  · refine mj_iload_n (pc := 6) (i := 2) rfl dd_Laws_operand_6 ?_
    exact mj_iret dd_Laws_operand_7 rfl rfl
  · refine mj_iload_n (pc := 8) (i := 2) rfl dd_Laws_operand_8 ?_
    refine mj_if_lt (pc := 9) (tgt := 27) dd_Laws_operand_9 rfl (fun h2 => ?_) (fun h2 => ?_)
    · refine mj_iconst (pc := 27) (v := (0 : Int32)) (by decide) dd_Laws_operand_27 ?_
      exact mj_iret dd_Laws_operand_28 rfl rfl
    · refine mj_iload_n (pc := 12) (i := 2) rfl dd_Laws_operand_12 ?_
      refine mj_bipush (pc := 13) (v := (6 : Int32)) (by decide) dd_Laws_operand_13 ?_
      refine mj_icmp_ge (pc := 15) (tgt := 27) dd_Laws_operand_15 rfl (fun h3 => ?_) (fun h3 => ?_)
      · refine mj_iconst (pc := 27) (v := (0 : Int32)) (by decide) dd_Laws_operand_27 ?_
        exact mj_iret dd_Laws_operand_28 rfl rfl
      · refine mj_aload_n (pc := 18) (i := 0) rfl dd_Laws_operand_18 ?_
        refine mj_getR (pc := 19) (b := 8) (k := 2) qf_Laws_15 sh_8 cl_5 rfl (by decide) (r := 9) rfl dd_Laws_operand_19 ?_
        refine mj_iload_n (pc := 22) (i := 2) rfl dd_Laws_operand_22 ?_
        refine mj_iald (pc := 23) sh_9 dd_Laws_operand_23 ?_
        refine mj_goto (pc := 24) (tgt := 28) dd_Laws_operand_24 rfl ?_
        exact mj_iret dd_Laws_operand_28 rfl rfl
def F_Laws_worth_b103 (N : Nat) (k49 : Int32 → Int32 → Int32 → Int32 → mj_M → Option (Int32 × mj_M)) (x2 : Int32) (x3 : Int32) (x4 : Int32) (x5 : Int32) (x6 : Int32) (M : mj_M) : Option (Int32 × mj_M) :=
    if x3 < (32 : Int32) then
     (mj_ck x5 960 (
     (F_Laws_operand x6 ((M 10 x5.toNatClampNeg) >>> ((7 : Int32) &&& 31)) M).bind (fun q21 =>
     mj_ck x3 32 (mj_lt (mj_u q21.2 12 x3.toNatClampNeg q21.1) (fun M22 =>
     k49 x2 (x3 + (1 : Int32)) x4 (x5 + (1 : Int32)) M22)))))
     else
     (some ((0 : Int32), M))
set_option maxRecDepth 20000 in
theorem T_Laws_worth_b103 {g : mj_G} (N : Nat) (e : Nat) (he : 2 ≤ e) (k49 : Int32 → Int32 → Int32 → Int32 → mj_M → Option (Int32 × mj_M)) (hk49 : ∀ (x2 : Int32) (x3 : Int32) (x4 : Int32) (x5 : Int32) (M : mj_M), mj_X g (mj_qI g) "WinterTellers$Laws" c_Laws_worth 7 (some .int) e 49 [(0, .ref 8), (2, .int x2), (3, .int x3), (4, .int x4), (5, .int x5)] [] M (k49 x2 x3 x4 x5 M)) (x2 : Int32) (x3 : Int32) (x4 : Int32) (x5 : Int32) (x6 : Int32) (M : mj_M) : mj_X g (mj_qI g) "WinterTellers$Laws" c_Laws_worth 7 (some .int) e 103 [(0, .ref 8), (2, .int x2), (3, .int x3), (4, .int x4), (5, .int x5), (6, .int x6)] [] M (F_Laws_worth_b103 N k49 x2 x3 x4 x5 x6 M) := by
  unfold F_Laws_worth_b103
  refine mj_iload_n (pc := 103) (i := 3) rfl dd_Laws_worth_103 ?_
  refine mj_bipush (pc := 104) (v := (32 : Int32)) (by decide) dd_Laws_worth_104 ?_
  refine mj_icmp_lt (pc := 106) (tgt := 111) dd_Laws_worth_106 rfl (fun h20 => ?_) (fun h20 => ?_)
  · refine mj_aload_n (pc := 111) (i := 0) rfl dd_Laws_worth_111 ?_
    refine mj_getR (pc := 112) (b := 8) (k := 5) qf_Laws_27 sh_8 cl_5 rfl (by decide) (r := 12) rfl dd_Laws_worth_112 ?_
    refine mj_iload_n (pc := 115) (i := 3) rfl dd_Laws_worth_115 ?_
    refine mj_aload_n (pc := 116) (i := 0) rfl dd_Laws_worth_116 ?_
    refine mj_iload (pc := 117) (i := 6) rfl dd_Laws_worth_117 ?_
    refine mj_aload_n (pc := 119) (i := 0) rfl dd_Laws_worth_119 ?_
    refine mj_getR (pc := 120) (b := 8) (k := 3) qf_Laws_21 sh_8 cl_5 rfl (by decide) (r := 10) rfl dd_Laws_worth_120 ?_
    refine mj_iload (pc := 123) (i := 5) rfl dd_Laws_worth_123 ?_
    refine mj_iald (pc := 125) sh_10 dd_Laws_worth_125 ?_
    refine mj_bipush (pc := 126) (v := (7 : Int32)) (by decide) dd_Laws_worth_126 ?_
    refine mj_ishr (pc := 128) dd_Laws_worth_128 ?_
    refine mj_callVI (pc := 129) (idx := 41) (b := 8) (As := [.int x6, .int ((M 10 x5.toNatClampNeg) >>> ((7 : Int32) &&& 31))]) (st := [.int x3, .ref 12]) sh_8 cl_5 ev_Laws_operand ql_Laws_41 rfl (Nat.le_of_ble_eq_true rfl) (T_Laws_operand (g := g) e (by omega) x6 ((M 10 x5.toNatClampNeg) >>> ((7 : Int32) &&& 31)) M) dd_Laws_worth_129 (fun q21 hq21 => ?_)
    refine mj_iast (pc := 132) sh_12 dd_Laws_worth_132 (fun M22 _ => ?_)
    refine mj_iinc (pc := 133) (i := 3) (z := (1 : Int32)) rfl (by decide) (by decide) dd_Laws_worth_133 ?_
    refine mj_L (L' := [(3, .int (x3 + (1 : Int32))), (0, .ref 8), (2, .int x2), (4, .int x4), (5, .int x5)]) [0, 1, 2, 3, 4] rfl ?_
    refine mj_goto (pc := 136) (tgt := 255) dd_Laws_worth_136 rfl ?_
    refine mj_iinc (pc := 255) (i := 5) (z := (1 : Int32)) rfl (by decide) (by decide) dd_Laws_worth_255 ?_
    refine mj_L (L' := [(5, .int (x5 + (1 : Int32))), (3, .int (x3 + (1 : Int32))), (0, .ref 8), (2, .int x2), (4, .int x4)]) [0, 1, 2, 3, 4] rfl ?_
    refine mj_goto (pc := 258) (tgt := 49) dd_Laws_worth_258 rfl ?_
    refine mj_L (L' := [(0, .ref 8), (2, .int x2), (3, .int (x3 + (1 : Int32))), (4, .int x4), (5, .int (x5 + (1 : Int32)))]) [2, 3, 1, 4, 0] rfl ?_
    exact hk49 x2 (x3 + (1 : Int32)) x4 (x5 + (1 : Int32)) M22
  · refine mj_iconst (pc := 109) (v := (0 : Int32)) (by decide) dd_Laws_worth_109 ?_
    exact mj_iret dd_Laws_worth_110 rfl rfl
def F_Laws_worth_b150 (N : Nat) (x3 : Int32) (M : mj_M) : Option (Int32 × mj_M) :=
    if x3 = (0) then
     (some ((0 : Int32), M))
     else
     (mj_ck (x3 - (1 : Int32)) 32 (
     some (M 12 (x3 - (1 : Int32)).toNatClampNeg, M)))
set_option maxRecDepth 20000 in
theorem T_Laws_worth_b150 {g : mj_G} (N : Nat) (e : Nat) (he : 2 ≤ e) (x3 : Int32) (M : mj_M) : mj_X g (mj_qI g) "WinterTellers$Laws" c_Laws_worth 7 (some .int) e 150 [(0, .ref 8), (3, .int x3)] [] M (F_Laws_worth_b150 N x3 M) := by
  unfold F_Laws_worth_b150
  refine mj_iload_n (pc := 150) (i := 3) rfl dd_Laws_worth_150 ?_
  refine mj_if_ne (pc := 151) (tgt := 158) dd_Laws_worth_151 rfl (fun h23 => ?_) (fun h23 => ?_)
  · refine mj_iconst (pc := 154) (v := (0 : Int32)) (by decide) dd_Laws_worth_154 ?_
    refine mj_goto (pc := 155) (tgt := 166) dd_Laws_worth_155 rfl ?_
    exact mj_iret dd_Laws_worth_166 rfl rfl
  · refine mj_aload_n (pc := 158) (i := 0) rfl dd_Laws_worth_158 ?_
    refine mj_getR (pc := 159) (b := 8) (k := 5) qf_Laws_27 sh_8 cl_5 rfl (by decide) (r := 12) rfl dd_Laws_worth_159 ?_
    refine mj_iload_n (pc := 162) (i := 3) rfl dd_Laws_worth_162 ?_
    refine mj_iconst (pc := 163) (v := (1 : Int32)) (by decide) dd_Laws_worth_163 ?_
    refine mj_isub (pc := 164) dd_Laws_worth_164 ?_
    refine mj_iald (pc := 165) sh_12 dd_Laws_worth_165 ?_
    exact mj_iret dd_Laws_worth_166 rfl rfl
def F_Laws_worth_b49 (N : Nat) : Nat → Int32 → Int32 → Int32 → Int32 → mj_M → Option (Int32 × mj_M)
  | 0, _, _, _, _, _ => none
  | n + 1, x2, x3, x4, x5, M =>
    if x2 ≤ x5 then
     (some ((0 : Int32), M))
     else
     (mj_ck x5 960 (
     mj_lt ((M 10 x5.toNatClampNeg) &&& (127 : Int32)) (fun v6 =>
     if x4 = (0) then
     (if v6 = (48 : Int32) then
     (F_Laws_worth_b103 N (F_Laws_worth_b49 N n) x2 x3 x4 x5 v6 M)
     else
     (if v6 = (108 : Int32) then
     (F_Laws_worth_b103 N (F_Laws_worth_b49 N n) x2 x3 x4 x5 v6 M)
     else
     (if x3 = (0) then
     (F_Laws_worth_b150 N x3 M)
     else
     (if v6 = (121 : Int32) then
     (F_Laws_worth_b150 N x3 M)
     else
     (if v6 = (33 : Int32) then
     (mj_ck (x3 - (1 : Int32)) 32 (
     mj_ck (x3 - (1 : Int32)) 32 (mj_lt (mj_u M 12 (x3 - (1 : Int32)).toNatClampNeg ((1 : Int32) - (M 12 (x3 - (1 : Int32)).toNatClampNeg))) (fun M18 =>
     F_Laws_worth_b49 N n x2 x3 x4 (x5 + (1 : Int32)) M18))))
     else
     (if v6 = (63 : Int32) then
     (mj_ck (x3 + (-1 : Int32)) 32 (
     if (M 12 (x3 + (-1 : Int32)).toNatClampNeg) = (0) then
     (F_Laws_worth_b49 N n x2 (x3 + (-1 : Int32)) (1 : Int32) (x5 + (1 : Int32)) M)
     else
     (F_Laws_worth_b49 N n x2 (x3 + (-1 : Int32)) (0 : Int32) (x5 + (1 : Int32)) M)))
     else
     (if (x3 + (-1 : Int32)) ≤ (0) then
     (F_Laws_worth_b49 N n x2 (x3 + (-1 : Int32)) x4 (x5 + (1 : Int32)) M)
     else
     (mj_ck ((x3 + (-1 : Int32)) - (1 : Int32)) 32 (
     mj_ck (x3 + (-1 : Int32)) 32 (
     (F_Laws_joined v6 (M 12 ((x3 + (-1 : Int32)) - (1 : Int32)).toNatClampNeg) (M 12 (x3 + (-1 : Int32)).toNatClampNeg) M).bind (fun q15 =>
     mj_ck ((x3 + (-1 : Int32)) - (1 : Int32)) 32 (mj_lt (mj_u q15.2 12 ((x3 + (-1 : Int32)) - (1 : Int32)).toNatClampNeg q15.1) (fun M16 =>
     F_Laws_worth_b49 N n x2 (x3 + (-1 : Int32)) x4 (x5 + (1 : Int32)) M16)))))))))))))
     else
     (if v6 = (121 : Int32) then
     (F_Laws_worth_b49 N n x2 x3 (0 : Int32) (x5 + (1 : Int32)) M)
     else
     (F_Laws_worth_b49 N n x2 x3 (1 : Int32) (x5 + (1 : Int32)) M)))))
set_option maxRecDepth 20000 in
theorem T_Laws_worth_b49 {g : mj_G} (N : Nat) (e : Nat) (he : 2 ≤ e) : ∀ (n : Nat) (x2 : Int32) (x3 : Int32) (x4 : Int32) (x5 : Int32) (M : mj_M), mj_X g (mj_qI g) "WinterTellers$Laws" c_Laws_worth 7 (some .int) e 49 [(0, .ref 8), (2, .int x2), (3, .int x3), (4, .int x4), (5, .int x5)] [] M (F_Laws_worth_b49 N n x2 x3 x4 x5 M) := by
  intro n
  induction n with
  | zero => intro x2 x3 x4 x5 M; exact mj_none
  | succ n ih =>
    intro x2 x3 x4 x5 M
    rw [F_Laws_worth_b49]
    refine mj_iload (pc := 49) (i := 5) rfl dd_Laws_worth_49 ?_
    refine mj_iload_n (pc := 51) (i := 2) rfl dd_Laws_worth_51 ?_
    refine mj_icmp_ge (pc := 52) (tgt := 261) dd_Laws_worth_52 rfl (fun h5 => ?_) (fun h5 => ?_)
    · refine mj_iconst (pc := 261) (v := (0 : Int32)) (by decide) dd_Laws_worth_261 ?_
      exact mj_iret dd_Laws_worth_262 rfl rfl
    · refine mj_aload_n (pc := 55) (i := 0) rfl dd_Laws_worth_55 ?_
      refine mj_getR (pc := 56) (b := 8) (k := 3) qf_Laws_21 sh_8 cl_5 rfl (by decide) (r := 10) rfl dd_Laws_worth_56 ?_
      refine mj_iload (pc := 59) (i := 5) rfl dd_Laws_worth_59 ?_
      refine mj_iald (pc := 61) sh_10 dd_Laws_worth_61 ?_
      refine mj_bipush (pc := 62) (v := (127 : Int32)) (by decide) dd_Laws_worth_62 ?_
      refine mj_iand (pc := 64) dd_Laws_worth_64 ?_
      refine mj_istoreL (pc := 65) (by decide) dd_Laws_worth_65 (fun v6 _ => ?_)
      refine mj_L (L' := [(6, .int v6), (0, .ref 8), (2, .int x2), (3, .int x3), (4, .int x4), (5, .int x5)]) [0, 1, 2, 3, 4, 5] rfl ?_
      refine mj_iload (pc := 67) (i := 4) rfl dd_Laws_worth_67 ?_
      refine mj_if_eq (pc := 69) (tgt := 89) dd_Laws_worth_69 rfl (fun h7 => ?_) (fun h7 => ?_)
      · refine mj_iload (pc := 89) (i := 6) rfl dd_Laws_worth_89 ?_
        refine mj_bipush (pc := 91) (v := (48 : Int32)) (by decide) dd_Laws_worth_91 ?_
        refine mj_icmp_eq (pc := 93) (tgt := 103) dd_Laws_worth_93 rfl (fun h8 => ?_) (fun h8 => ?_)
        · refine mj_L (L' := [(0, .ref 8), (2, .int x2), (3, .int x3), (4, .int x4), (5, .int x5), (6, .int v6)]) [1, 2, 3, 4, 5, 0] rfl ?_
          exact T_Laws_worth_b103 (g := g) N e he (F_Laws_worth_b49 N n) ih x2 x3 x4 x5 v6 M
        · refine mj_iload (pc := 96) (i := 6) rfl dd_Laws_worth_96 ?_
          refine mj_bipush (pc := 98) (v := (108 : Int32)) (by decide) dd_Laws_worth_98 ?_
          refine mj_icmp_ne (pc := 100) (tgt := 139) dd_Laws_worth_100 rfl (fun h9 => ?_) (fun h9 => ?_)
          · refine mj_L (L' := [(0, .ref 8), (2, .int x2), (3, .int x3), (4, .int x4), (5, .int x5), (6, .int v6)]) [1, 2, 3, 4, 5, 0] rfl ?_
            exact T_Laws_worth_b103 (g := g) N e he (F_Laws_worth_b49 N n) ih x2 x3 x4 x5 v6 M
          · refine mj_iload_n (pc := 139) (i := 3) rfl dd_Laws_worth_139 ?_
            refine mj_if_eq (pc := 140) (tgt := 150) dd_Laws_worth_140 rfl (fun h10 => ?_) (fun h10 => ?_)
            · refine mj_L (L' := [(0, .ref 8), (3, .int x3)]) [1, 3] rfl ?_
              exact T_Laws_worth_b150 (g := g) N e he x3 M
            · refine mj_iload (pc := 143) (i := 6) rfl dd_Laws_worth_143 ?_
              refine mj_bipush (pc := 145) (v := (121 : Int32)) (by decide) dd_Laws_worth_145 ?_
              refine mj_icmp_ne (pc := 147) (tgt := 167) dd_Laws_worth_147 rfl (fun h11 => ?_) (fun h11 => ?_)
              · refine mj_L (L' := [(0, .ref 8), (3, .int x3)]) [1, 3] rfl ?_
                exact T_Laws_worth_b150 (g := g) N e he x3 M
              · refine mj_iload (pc := 167) (i := 6) rfl dd_Laws_worth_167 ?_
                refine mj_bipush (pc := 169) (v := (33 : Int32)) (by decide) dd_Laws_worth_169 ?_
                refine mj_icmp_ne (pc := 171) (tgt := 195) dd_Laws_worth_171 rfl (fun h12 => ?_) (fun h12 => ?_)
                · refine mj_aload_n (pc := 174) (i := 0) rfl dd_Laws_worth_174 ?_
                  refine mj_getR (pc := 175) (b := 8) (k := 5) qf_Laws_27 sh_8 cl_5 rfl (by decide) (r := 12) rfl dd_Laws_worth_175 ?_
                  refine mj_iload_n (pc := 178) (i := 3) rfl dd_Laws_worth_178 ?_
                  refine mj_iconst (pc := 179) (v := (1 : Int32)) (by decide) dd_Laws_worth_179 ?_
                  refine mj_isub (pc := 180) dd_Laws_worth_180 ?_
                  refine mj_iconst (pc := 181) (v := (1 : Int32)) (by decide) dd_Laws_worth_181 ?_
                  refine mj_aload_n (pc := 182) (i := 0) rfl dd_Laws_worth_182 ?_
                  refine mj_getR (pc := 183) (b := 8) (k := 5) qf_Laws_27 sh_8 cl_5 rfl (by decide) (r := 12) rfl dd_Laws_worth_183 ?_
                  refine mj_iload_n (pc := 186) (i := 3) rfl dd_Laws_worth_186 ?_
                  refine mj_iconst (pc := 187) (v := (1 : Int32)) (by decide) dd_Laws_worth_187 ?_
                  refine mj_isub (pc := 188) dd_Laws_worth_188 ?_
                  refine mj_iald (pc := 189) sh_12 dd_Laws_worth_189 ?_
                  refine mj_isub (pc := 190) dd_Laws_worth_190 ?_
                  refine mj_iast (pc := 191) sh_12 dd_Laws_worth_191 (fun M18 _ => ?_)
                  refine mj_goto (pc := 192) (tgt := 255) dd_Laws_worth_192 rfl ?_
                  refine mj_iinc (pc := 255) (i := 5) (z := (1 : Int32)) rfl (by decide) (by decide) dd_Laws_worth_255 ?_
                  refine mj_L (L' := [(5, .int (x5 + (1 : Int32))), (0, .ref 8), (2, .int x2), (3, .int x3), (4, .int x4)]) [0, 2, 3, 4, 5] rfl ?_
                  refine mj_goto (pc := 258) (tgt := 49) dd_Laws_worth_258 rfl ?_
                  refine mj_L (L' := [(0, .ref 8), (2, .int x2), (3, .int x3), (4, .int x4), (5, .int (x5 + (1 : Int32)))]) [1, 2, 3, 4, 0] rfl ?_
                  exact ih x2 x3 x4 (x5 + (1 : Int32)) M18
                · refine mj_iinc (pc := 195) (i := 3) (z := (-1 : Int32)) rfl (by decide) (by decide) dd_Laws_worth_195 ?_
                  refine mj_L (L' := [(3, .int (x3 + (-1 : Int32))), (6, .int v6), (0, .ref 8), (2, .int x2), (4, .int x4), (5, .int x5)]) [0, 1, 2, 3, 4, 5] rfl ?_
                  refine mj_iload (pc := 198) (i := 6) rfl dd_Laws_worth_198 ?_
                  refine mj_bipush (pc := 200) (v := (63 : Int32)) (by decide) dd_Laws_worth_200 ?_
                  refine mj_icmp_ne (pc := 202) (tgt := 224) dd_Laws_worth_202 rfl (fun h13 => ?_) (fun h13 => ?_)
                  · refine mj_aload_n (pc := 205) (i := 0) rfl dd_Laws_worth_205 ?_
                    refine mj_getR (pc := 206) (b := 8) (k := 5) qf_Laws_27 sh_8 cl_5 rfl (by decide) (r := 12) rfl dd_Laws_worth_206 ?_
                    refine mj_iload_n (pc := 209) (i := 3) rfl dd_Laws_worth_209 ?_
                    refine mj_iald (pc := 210) sh_12 dd_Laws_worth_210 ?_
                    refine mj_if_ne (pc := 211) (tgt := 218) dd_Laws_worth_211 rfl (fun h17 => ?_) (fun h17 => ?_)
                    · refine mj_iconst (pc := 214) (v := (1 : Int32)) (by decide) dd_Laws_worth_214 ?_
                      refine mj_goto (pc := 215) (tgt := 219) dd_Laws_worth_215 rfl ?_
                      refine mj_istore (pc := 219) (by decide) dd_Laws_worth_219 ?_
                      refine mj_L (L' := [(4, .int (1 : Int32)), (3, .int (x3 + (-1 : Int32))), (0, .ref 8), (2, .int x2), (5, .int x5)]) [0, 1, 3, 4, 5] rfl ?_
                      refine mj_goto (pc := 221) (tgt := 255) dd_Laws_worth_221 rfl ?_
                      refine mj_iinc (pc := 255) (i := 5) (z := (1 : Int32)) rfl (by decide) (by decide) dd_Laws_worth_255 ?_
                      refine mj_L (L' := [(5, .int (x5 + (1 : Int32))), (4, .int (1 : Int32)), (3, .int (x3 + (-1 : Int32))), (0, .ref 8), (2, .int x2)]) [0, 1, 2, 3, 4] rfl ?_
                      refine mj_goto (pc := 258) (tgt := 49) dd_Laws_worth_258 rfl ?_
                      refine mj_L (L' := [(0, .ref 8), (2, .int x2), (3, .int (x3 + (-1 : Int32))), (4, .int (1 : Int32)), (5, .int (x5 + (1 : Int32)))]) [3, 4, 2, 1, 0] rfl ?_
                      exact ih x2 (x3 + (-1 : Int32)) (1 : Int32) (x5 + (1 : Int32)) M
                    · refine mj_iconst (pc := 218) (v := (0 : Int32)) (by decide) dd_Laws_worth_218 ?_
                      refine mj_istore (pc := 219) (by decide) dd_Laws_worth_219 ?_
                      refine mj_L (L' := [(4, .int (0 : Int32)), (3, .int (x3 + (-1 : Int32))), (0, .ref 8), (2, .int x2), (5, .int x5)]) [0, 1, 3, 4, 5] rfl ?_
                      refine mj_goto (pc := 221) (tgt := 255) dd_Laws_worth_221 rfl ?_
                      refine mj_iinc (pc := 255) (i := 5) (z := (1 : Int32)) rfl (by decide) (by decide) dd_Laws_worth_255 ?_
                      refine mj_L (L' := [(5, .int (x5 + (1 : Int32))), (4, .int (0 : Int32)), (3, .int (x3 + (-1 : Int32))), (0, .ref 8), (2, .int x2)]) [0, 1, 2, 3, 4] rfl ?_
                      refine mj_goto (pc := 258) (tgt := 49) dd_Laws_worth_258 rfl ?_
                      refine mj_L (L' := [(0, .ref 8), (2, .int x2), (3, .int (x3 + (-1 : Int32))), (4, .int (0 : Int32)), (5, .int (x5 + (1 : Int32)))]) [3, 4, 2, 1, 0] rfl ?_
                      exact ih x2 (x3 + (-1 : Int32)) (0 : Int32) (x5 + (1 : Int32)) M
                  · refine mj_iload_n (pc := 224) (i := 3) rfl dd_Laws_worth_224 ?_
                    refine mj_if_le (pc := 225) (tgt := 255) dd_Laws_worth_225 rfl (fun h14 => ?_) (fun h14 => ?_)
                    · refine mj_iinc (pc := 255) (i := 5) (z := (1 : Int32)) rfl (by decide) (by decide) dd_Laws_worth_255 ?_
                      refine mj_L (L' := [(5, .int (x5 + (1 : Int32))), (3, .int (x3 + (-1 : Int32))), (0, .ref 8), (2, .int x2), (4, .int x4)]) [0, 1, 3, 4, 5] rfl ?_
                      refine mj_goto (pc := 258) (tgt := 49) dd_Laws_worth_258 rfl ?_
                      refine mj_L (L' := [(0, .ref 8), (2, .int x2), (3, .int (x3 + (-1 : Int32))), (4, .int x4), (5, .int (x5 + (1 : Int32)))]) [2, 3, 1, 4, 0] rfl ?_
                      exact ih x2 (x3 + (-1 : Int32)) x4 (x5 + (1 : Int32)) M
                    · refine mj_aload_n (pc := 228) (i := 0) rfl dd_Laws_worth_228 ?_
                      refine mj_getR (pc := 229) (b := 8) (k := 5) qf_Laws_27 sh_8 cl_5 rfl (by decide) (r := 12) rfl dd_Laws_worth_229 ?_
                      refine mj_iload_n (pc := 232) (i := 3) rfl dd_Laws_worth_232 ?_
                      refine mj_iconst (pc := 233) (v := (1 : Int32)) (by decide) dd_Laws_worth_233 ?_
                      refine mj_isub (pc := 234) dd_Laws_worth_234 ?_
                      refine mj_iload (pc := 235) (i := 6) rfl dd_Laws_worth_235 ?_
                      refine mj_aload_n (pc := 237) (i := 0) rfl dd_Laws_worth_237 ?_
                      refine mj_getR (pc := 238) (b := 8) (k := 5) qf_Laws_27 sh_8 cl_5 rfl (by decide) (r := 12) rfl dd_Laws_worth_238 ?_
                      refine mj_iload_n (pc := 241) (i := 3) rfl dd_Laws_worth_241 ?_
                      refine mj_iconst (pc := 242) (v := (1 : Int32)) (by decide) dd_Laws_worth_242 ?_
                      refine mj_isub (pc := 243) dd_Laws_worth_243 ?_
                      refine mj_iald (pc := 244) sh_12 dd_Laws_worth_244 ?_
                      refine mj_aload_n (pc := 245) (i := 0) rfl dd_Laws_worth_245 ?_
                      refine mj_getR (pc := 246) (b := 8) (k := 5) qf_Laws_27 sh_8 cl_5 rfl (by decide) (r := 12) rfl dd_Laws_worth_246 ?_
                      refine mj_iload_n (pc := 249) (i := 3) rfl dd_Laws_worth_249 ?_
                      refine mj_iald (pc := 250) sh_12 dd_Laws_worth_250 ?_
                      refine mj_callSI (pc := 251) (idx := 45) (As := [.int v6, .int (M 12 ((x3 + (-1 : Int32)) - (1 : Int32)).toNatClampNeg), .int (M 12 (x3 + (-1 : Int32)).toNatClampNeg)]) (st := [.int ((x3 + (-1 : Int32)) - (1 : Int32)), .ref 12]) es_Laws_joined ql_Laws_45 rfl (Nat.le_of_ble_eq_true rfl) (T_Laws_joined (g := g) e (by omega) v6 (M 12 ((x3 + (-1 : Int32)) - (1 : Int32)).toNatClampNeg) (M 12 (x3 + (-1 : Int32)).toNatClampNeg) M) dd_Laws_worth_251 (fun q15 hq15 => ?_)
                      refine mj_iast (pc := 254) sh_12 dd_Laws_worth_254 (fun M16 _ => ?_)
                      refine mj_iinc (pc := 255) (i := 5) (z := (1 : Int32)) rfl (by decide) (by decide) dd_Laws_worth_255 ?_
                      refine mj_L (L' := [(5, .int (x5 + (1 : Int32))), (3, .int (x3 + (-1 : Int32))), (0, .ref 8), (2, .int x2), (4, .int x4)]) [0, 1, 3, 4, 5] rfl ?_
                      refine mj_goto (pc := 258) (tgt := 49) dd_Laws_worth_258 rfl ?_
                      refine mj_L (L' := [(0, .ref 8), (2, .int x2), (3, .int (x3 + (-1 : Int32))), (4, .int x4), (5, .int (x5 + (1 : Int32)))]) [2, 3, 1, 4, 0] rfl ?_
                      exact ih x2 (x3 + (-1 : Int32)) x4 (x5 + (1 : Int32)) M16
      · refine mj_iload (pc := 72) (i := 6) rfl dd_Laws_worth_72 ?_
        refine mj_bipush (pc := 74) (v := (121 : Int32)) (by decide) dd_Laws_worth_74 ?_
        refine mj_icmp_eq (pc := 76) (tgt := 83) dd_Laws_worth_76 rfl (fun h19 => ?_) (fun h19 => ?_)
        · refine mj_iconst (pc := 83) (v := (0 : Int32)) (by decide) dd_Laws_worth_83 ?_
          refine mj_istore (pc := 84) (by decide) dd_Laws_worth_84 ?_
          refine mj_L (L' := [(4, .int (0 : Int32)), (0, .ref 8), (2, .int x2), (3, .int x3), (5, .int x5)]) [0, 2, 3, 4, 5] rfl ?_
          refine mj_goto (pc := 86) (tgt := 255) dd_Laws_worth_86 rfl ?_
          refine mj_iinc (pc := 255) (i := 5) (z := (1 : Int32)) rfl (by decide) (by decide) dd_Laws_worth_255 ?_
          refine mj_L (L' := [(5, .int (x5 + (1 : Int32))), (4, .int (0 : Int32)), (0, .ref 8), (2, .int x2), (3, .int x3)]) [0, 1, 2, 3, 4] rfl ?_
          refine mj_goto (pc := 258) (tgt := 49) dd_Laws_worth_258 rfl ?_
          refine mj_L (L' := [(0, .ref 8), (2, .int x2), (3, .int x3), (4, .int (0 : Int32)), (5, .int (x5 + (1 : Int32)))]) [2, 3, 4, 1, 0] rfl ?_
          exact ih x2 x3 (0 : Int32) (x5 + (1 : Int32)) M
        · refine mj_iconst (pc := 79) (v := (1 : Int32)) (by decide) dd_Laws_worth_79 ?_
          refine mj_goto (pc := 80) (tgt := 84) dd_Laws_worth_80 rfl ?_
          refine mj_istore (pc := 84) (by decide) dd_Laws_worth_84 ?_
          refine mj_L (L' := [(4, .int (1 : Int32)), (0, .ref 8), (2, .int x2), (3, .int x3), (5, .int x5)]) [0, 2, 3, 4, 5] rfl ?_
          refine mj_goto (pc := 86) (tgt := 255) dd_Laws_worth_86 rfl ?_
          refine mj_iinc (pc := 255) (i := 5) (z := (1 : Int32)) rfl (by decide) (by decide) dd_Laws_worth_255 ?_
          refine mj_L (L' := [(5, .int (x5 + (1 : Int32))), (4, .int (1 : Int32)), (0, .ref 8), (2, .int x2), (3, .int x3)]) [0, 1, 2, 3, 4] rfl ?_
          refine mj_goto (pc := 258) (tgt := 49) dd_Laws_worth_258 rfl ?_
          refine mj_L (L' := [(0, .ref 8), (2, .int x2), (3, .int x3), (4, .int (1 : Int32)), (5, .int (x5 + (1 : Int32)))]) [2, 3, 4, 1, 0] rfl ?_
          exact ih x2 x3 (1 : Int32) (x5 + (1 : Int32)) M
def F_Laws_worth (N : Nat) (M : mj_M) : Option (Int32 × mj_M) :=
    if (M 8 1) < (0) then
     (some ((0 : Int32), M))
     else
     (if (M 8 1) < (M 8 0) then
     (mj_lt ((M 8 1) * (240 : Int32)) (fun v3 =>
     mj_ck (M 8 1) 4 (
     mj_lt (v3 + (M 11 (M 8 1).toNatClampNeg)) (fun v4 =>
     F_Laws_worth_b49 N N v4 (0 : Int32) (0 : Int32) v3 M))))
     else
     (some ((0 : Int32), M)))
set_option maxRecDepth 20000 in
theorem T_Laws_worth {g : mj_G} (N : Nat) : ∀ d, 3 ≤ d → ∀ (M : mj_M), mj_Mt g (mj_qI g) d y_Laws_worth c_Laws_worth 7 (some .int) [.ref 8] M (F_Laws_worth N M) := by
  intro d hd M
  obtain ⟨e, rfl⟩ : ∃ e, d = e + 1 := ⟨d - 1, by omega⟩
  have he : 2 ≤ e := by omega
  refine mj_met (by decide +kernel) (Nat.le_of_ble_eq_true rfl) ?_
  unfold F_Laws_worth
  refine mj_L (L' := [(0, .ref 8)]) [0] rfl ?_
  refine mj_aload_n (pc := 0) (i := 0) rfl dd_Laws_worth_0 ?_
  refine mj_getI (pc := 1) (b := 8) (k := 1) qf_Laws_9 sh_8 cl_5 rfl (by decide) rfl dd_Laws_worth_1 ?_
  refine mj_if_lt (pc := 4) (tgt := 18) dd_Laws_worth_4 rfl (fun h1 => ?_) (fun h1 => ?_)
  · refine mj_iconst (pc := 18) (v := (0 : Int32)) (by decide) dd_Laws_worth_18 ?_
    exact mj_iret dd_Laws_worth_19 rfl rfl
  · refine mj_aload_n (pc := 7) (i := 0) rfl dd_Laws_worth_7 ?_
    refine mj_getI (pc := 8) (b := 8) (k := 1) qf_Laws_9 sh_8 cl_5 rfl (by decide) rfl dd_Laws_worth_8 ?_
    refine mj_aload_n (pc := 11) (i := 0) rfl dd_Laws_worth_11 ?_
    refine mj_getI (pc := 12) (b := 8) (k := 0) qf_Laws_30 sh_8 cl_5 rfl (by decide) rfl dd_Laws_worth_12 ?_
    refine mj_icmp_lt (pc := 15) (tgt := 20) dd_Laws_worth_15 rfl (fun h2 => ?_) (fun h2 => ?_)
    · refine mj_aload_n (pc := 20) (i := 0) rfl dd_Laws_worth_20 ?_
      refine mj_getI (pc := 21) (b := 8) (k := 1) qf_Laws_9 sh_8 cl_5 rfl (by decide) rfl dd_Laws_worth_21 ?_
      refine mj_sipush (pc := 24) (v := (240 : Int32)) (by decide) dd_Laws_worth_24 ?_
      refine mj_imul (pc := 27) dd_Laws_worth_27 ?_
      refine mj_istore_nL (pc := 28) (by decide) dd_Laws_worth_28 (fun v3 _ => ?_)
      refine mj_L (L' := [(1, .int v3), (0, .ref 8)]) [0, 1] rfl ?_
      refine mj_iload_n (pc := 29) (i := 1) rfl dd_Laws_worth_29 ?_
      refine mj_aload_n (pc := 30) (i := 0) rfl dd_Laws_worth_30 ?_
      refine mj_getR (pc := 31) (b := 8) (k := 4) qf_Laws_24 sh_8 cl_5 rfl (by decide) (r := 11) rfl dd_Laws_worth_31 ?_
      refine mj_aload_n (pc := 34) (i := 0) rfl dd_Laws_worth_34 ?_
      refine mj_getI (pc := 35) (b := 8) (k := 1) qf_Laws_9 sh_8 cl_5 rfl (by decide) rfl dd_Laws_worth_35 ?_
      refine mj_iald (pc := 38) sh_11 dd_Laws_worth_38 ?_
      refine mj_iadd (pc := 39) dd_Laws_worth_39 ?_
      refine mj_istore_nL (pc := 40) (by decide) dd_Laws_worth_40 (fun v4 _ => ?_)
      refine mj_L (L' := [(2, .int v4), (1, .int v3), (0, .ref 8)]) [0, 1, 2] rfl ?_
      refine mj_iconst (pc := 41) (v := (0 : Int32)) (by decide) dd_Laws_worth_41 ?_
      refine mj_istore_n (pc := 42) (by decide) dd_Laws_worth_42 ?_
      refine mj_L (L' := [(3, .int (0 : Int32)), (2, .int v4), (1, .int v3), (0, .ref 8)]) [0, 1, 2, 3] rfl ?_
      refine mj_iconst (pc := 43) (v := (0 : Int32)) (by decide) dd_Laws_worth_43 ?_
      refine mj_istore (pc := 44) (by decide) dd_Laws_worth_44 ?_
      refine mj_L (L' := [(4, .int (0 : Int32)), (3, .int (0 : Int32)), (2, .int v4), (1, .int v3), (0, .ref 8)]) [0, 1, 2, 3, 4] rfl ?_
      refine mj_iload_n (pc := 46) (i := 1) rfl dd_Laws_worth_46 ?_
      refine mj_istore (pc := 47) (by decide) dd_Laws_worth_47 ?_
      refine mj_L (L' := [(5, .int v3), (4, .int (0 : Int32)), (3, .int (0 : Int32)), (2, .int v4), (0, .ref 8)]) [0, 1, 2, 3, 5] rfl ?_
      refine mj_L (L' := [(0, .ref 8), (2, .int v4), (3, .int (0 : Int32)), (4, .int (0 : Int32)), (5, .int v3)]) [4, 3, 2, 1, 0] rfl ?_
      exact T_Laws_worth_b49 (g := g) N e he N v4 (0 : Int32) (0 : Int32) v3 M
    · refine mj_iconst (pc := 18) (v := (0 : Int32)) (by decide) dd_Laws_worth_18 ?_
      exact mj_iret dd_Laws_worth_19 rfl rfl
