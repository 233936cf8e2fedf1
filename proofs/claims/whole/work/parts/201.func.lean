/-! ===== functions and their proofs ===== -/
def F_LawReader_write (x1 : Int32) (x2 : Int32) (M : mj_M) : Option (mj_M) :=
    if (240 : Int32) ≤ (M 6 1) then
     (some M)
     else
     (mj_ck (M 6 1) 240 (mj_lt (mj_u M 7 (M 6 1).toNatClampNeg ((x2 <<< ((7 : Int32) &&& 31)) ||| x1)) (fun M2 =>
     mj_lt (mj_u M2 6 1 ((M2 6 1) + (1 : Int32))) (fun M3 =>
     some M3))))
set_option maxRecDepth 20000 in
theorem T_LawReader_write {g : mj_G} : ∀ d, 1 ≤ d → ∀ (x1 : Int32) (x2 : Int32) (M : mj_M), mj_Mt g (mj_qV g) d y_LawReader_write c_LawReader_write 3 none [.ref 6, .int x1, .int x2] M (F_LawReader_write x1 x2 M) := by
  intro d hd x1 x2 M
  obtain ⟨e, rfl⟩ : ∃ e, d = e + 1 := ⟨d - 1, by omega⟩
  have he : 0 ≤ e := by omega
  refine mj_met (by decide +kernel) (Nat.le_of_ble_eq_true rfl) ?_
  unfold F_LawReader_write
  refine mj_L (L' := [(0, .ref 6), (1, .int x1), (2, .int x2)]) [0, 1, 2] rfl ?_
  refine mj_aload_n (pc := 0) (i := 0) rfl dd_LawReader_write_0 ?_
  refine mj_getI (pc := 1) (b := 6) (k := 1) qf_LawReader_22 sh_6 cl_4 rfl (by decide) rfl dd_LawReader_write_1 ?_
  refine mj_aload_n (pc := 4) (i := 0) rfl dd_LawReader_write_4 ?_
  refine mj_getR (pc := 5) (b := 6) (k := 0) qf_LawReader_9 sh_6 cl_4 rfl (by decide) (r := 7) rfl dd_LawReader_write_5 ?_
  refine mj_alen (pc := 8) (v := (240 : Int32)) sh_7 (by decide) dd_LawReader_write_8 ?_
  refine mj_icmp_ge (pc := 9) (tgt := 37) dd_LawReader_write_9 rfl (fun h1 => ?_) (fun h1 => ?_)
  · exact mj_vret dd_LawReader_write_37 rfl rfl
  · refine mj_aload_n (pc := 12) (i := 0) rfl dd_LawReader_write_12 ?_
    refine mj_getR (pc := 13) (b := 6) (k := 0) qf_LawReader_9 sh_6 cl_4 rfl (by decide) (r := 7) rfl dd_LawReader_write_13 ?_
    refine mj_aload_n (pc := 16) (i := 0) rfl dd_LawReader_write_16 ?_
    refine mj_getI (pc := 17) (b := 6) (k := 1) qf_LawReader_22 sh_6 cl_4 rfl (by decide) rfl dd_LawReader_write_17 ?_
    refine mj_iload_n (pc := 20) (i := 2) rfl dd_LawReader_write_20 ?_
    refine mj_bipush (pc := 21) (v := (7 : Int32)) (by decide) dd_LawReader_write_21 ?_
    refine mj_ishl (pc := 23) dd_LawReader_write_23 ?_
    refine mj_iload_n (pc := 24) (i := 1) rfl dd_LawReader_write_24 ?_
    refine mj_ior (pc := 25) dd_LawReader_write_25 ?_
    refine mj_iast (pc := 26) sh_7 dd_LawReader_write_26 (fun M2 _ => ?_)
    refine mj_aload_n (pc := 27) (i := 0) rfl dd_LawReader_write_27 ?_
    refine mj_dup (pc := 28) rfl dd_LawReader_write_28 ?_
    refine mj_getI (pc := 29) (b := 6) (k := 1) qf_LawReader_22 sh_6 cl_4 rfl (by decide) rfl dd_LawReader_write_29 ?_
    refine mj_iconst (pc := 32) (v := (1 : Int32)) (by decide) dd_LawReader_write_32 ?_
    refine mj_iadd (pc := 33) dd_LawReader_write_33 ?_
    refine mj_putI (pc := 34) (b := 6) (k := 1) qf_LawReader_22 sh_6 cl_4 rfl (by decide) (by decide) rfl rfl rfl dd_LawReader_write_34 (fun M3 _ => ?_)
    exact mj_vret dd_LawReader_write_37 rfl rfl
def F_LawReader_readLetter_b2 (N : Nat) : Nat → Int32 → Int32 → mj_M → Option (mj_M)
  | 0, _, _, _ => none
  | n + 1, x1, x2, M =>
    if (6 : Int32) ≤ x2 then
     ((F_Tape_fail (M 2 2) M).bind (fun q2 =>
     some q2))
     else
     (mj_ck x2 ([108, 107, 99, 110, 119, 114] : List Int32).length (
     if (([108, 107, 99, 110, 119, 114] : List Int32).getD x2.toNatClampNeg 0) = x1 then
     (mj_lt (mj_u M 2 2 ((M 2 2) + (1 : Int32))) (fun M4 =>
     (F_LawReader_write (108 : Int32) x2 M4).bind (fun q5 =>
     some q5)))
     else
     (F_LawReader_readLetter_b2 N n x1 (x2 + (1 : Int32)) M)))
set_option maxRecDepth 20000 in
theorem T_LawReader_readLetter_b2 {g : mj_G} (N : Nat) (e : Nat) (he : 1 ≤ e) : ∀ (n : Nat) (x1 : Int32) (x2 : Int32) (M : mj_M), mj_X g (mj_qV g) "WinterTellers$LawReader" c_LawReader_readLetter 3 none e 2 [(0, .ref 6), (1, .int x1), (2, .int x2)] [] M (F_LawReader_readLetter_b2 N n x1 x2 M) := by
  intro n
  induction n with
  | zero => intro x1 x2 M; exact mj_none
  | succ n ih =>
    intro x1 x2 M
    rw [F_LawReader_readLetter_b2]
    refine mj_iload_n (pc := 2) (i := 2) rfl dd_LawReader_readLetter_2 ?_
    refine mj_gets (pc := 3) (i := 4) rfl qf_LawReader_89 dd_LawReader_readLetter_3 ?_
    refine mj_stlen (pc := 6) (i := 4) (v := (6 : Int32)) rfl (by decide) dd_LawReader_readLetter_6 ?_
    refine mj_icmp_ge (pc := 7) (tgt := 46) dd_LawReader_readLetter_7 rfl (fun h1 => ?_) (fun h1 => ?_)
    · refine mj_aload_n (pc := 46) (i := 0) rfl dd_LawReader_readLetter_46 ?_
      refine mj_getR (pc := 47) (b := 6) (k := 2) qf_LawReader_15 sh_6 cl_4 rfl (by decide) (r := 2) rfl dd_LawReader_readLetter_47 ?_
      refine mj_aload_n (pc := 50) (i := 0) rfl dd_LawReader_readLetter_50 ?_
      refine mj_getR (pc := 51) (b := 6) (k := 2) qf_LawReader_15 sh_6 cl_4 rfl (by decide) (r := 2) rfl dd_LawReader_readLetter_51 ?_
      refine mj_getI (pc := 54) (b := 2) (k := 2) qf_LawReader_70 sh_2 cl_10 rfl (by decide) rfl dd_LawReader_readLetter_54 ?_
      refine mj_callVV (pc := 57) (idx := 73) (b := 2) (As := [.int (M 2 2)]) (st := []) sh_2 cl_10 ev_Tape_fail ql_LawReader_73 rfl (Nat.le_of_ble_eq_true rfl) (T_Tape_fail (g := g) e (by omega) (M 2 2) M) dd_LawReader_readLetter_57 (fun q2 hq2 => ?_)
      exact mj_vret dd_LawReader_readLetter_60 rfl rfl
    · refine mj_gets (pc := 10) (i := 4) rfl qf_LawReader_89 dd_LawReader_readLetter_10 ?_
      refine mj_iload_n (pc := 13) (i := 2) rfl dd_LawReader_readLetter_13 ?_
      refine mj_stC (pc := 14) (i := 4) rfl dd_LawReader_readLetter_14 ?_
      refine mj_iload_n (pc := 15) (i := 1) rfl dd_LawReader_readLetter_15 ?_
      refine mj_icmp_ne (pc := 16) (tgt := 40) dd_LawReader_readLetter_16 rfl (fun h3 => ?_) (fun h3 => ?_)
      · refine mj_aload_n (pc := 19) (i := 0) rfl dd_LawReader_readLetter_19 ?_
        refine mj_getR (pc := 20) (b := 6) (k := 2) qf_LawReader_15 sh_6 cl_4 rfl (by decide) (r := 2) rfl dd_LawReader_readLetter_20 ?_
        refine mj_dup (pc := 23) rfl dd_LawReader_readLetter_23 ?_
        refine mj_getI (pc := 24) (b := 2) (k := 2) qf_LawReader_70 sh_2 cl_10 rfl (by decide) rfl dd_LawReader_readLetter_24 ?_
        refine mj_iconst (pc := 27) (v := (1 : Int32)) (by decide) dd_LawReader_readLetter_27 ?_
        refine mj_iadd (pc := 28) dd_LawReader_readLetter_28 ?_
        refine mj_putI (pc := 29) (b := 2) (k := 2) qf_LawReader_70 sh_2 cl_10 rfl (by decide) (by decide) rfl rfl rfl dd_LawReader_readLetter_29 (fun M4 _ => ?_)
        refine mj_aload_n (pc := 32) (i := 0) rfl dd_LawReader_readLetter_32 ?_
        refine mj_bipush (pc := 33) (v := (108 : Int32)) (by decide) dd_LawReader_readLetter_33 ?_
        refine mj_iload_n (pc := 35) (i := 2) rfl dd_LawReader_readLetter_35 ?_
        refine mj_callVV (pc := 36) (idx := 57) (b := 6) (As := [.int (108 : Int32), .int x2]) (st := []) sh_6 cl_4 ev_LawReader_write ql_LawReader_57 rfl (Nat.le_of_ble_eq_true rfl) (T_LawReader_write (g := g) e (by omega) (108 : Int32) x2 M4) dd_LawReader_readLetter_36 (fun q5 hq5 => ?_)
        exact mj_vret dd_LawReader_readLetter_39 rfl rfl
      · refine mj_iinc (pc := 40) (i := 2) (z := (1 : Int32)) rfl (by decide) (by decide) dd_LawReader_readLetter_40 ?_
        refine mj_L (L' := [(2, .int (x2 + (1 : Int32))), (0, .ref 6), (1, .int x1)]) [0, 1, 2] rfl ?_
        refine mj_goto (pc := 43) (tgt := 2) dd_LawReader_readLetter_43 rfl ?_
        refine mj_L (L' := [(0, .ref 6), (1, .int x1), (2, .int (x2 + (1 : Int32)))]) [1, 2, 0] rfl ?_
        exact ih x1 (x2 + (1 : Int32)) M
def F_LawReader_readLetter (N : Nat) (x1 : Int32) (M : mj_M) : Option (mj_M) :=
    F_LawReader_readLetter_b2 N N x1 (0 : Int32) M
set_option maxRecDepth 20000 in
theorem T_LawReader_readLetter {g : mj_G} (N : Nat) : ∀ d, 2 ≤ d → ∀ (x1 : Int32) (M : mj_M), mj_Mt g (mj_qV g) d y_LawReader_readLetter c_LawReader_readLetter 3 none [.ref 6, .int x1] M (F_LawReader_readLetter N x1 M) := by
  intro d hd x1 M
  obtain ⟨e, rfl⟩ : ∃ e, d = e + 1 := ⟨d - 1, by omega⟩
  have he : 1 ≤ e := by omega
  refine mj_met (by decide +kernel) (Nat.le_of_ble_eq_true rfl) ?_
  unfold F_LawReader_readLetter
  refine mj_L (L' := [(0, .ref 6), (1, .int x1)]) [0, 1] rfl ?_
  refine mj_iconst (pc := 0) (v := (0 : Int32)) (by decide) dd_LawReader_readLetter_0 ?_
  refine mj_istore_n (pc := 1) (by decide) dd_LawReader_readLetter_1 ?_
  refine mj_L (L' := [(2, .int (0 : Int32)), (0, .ref 6), (1, .int x1)]) [0, 1, 2] rfl ?_
  refine mj_L (L' := [(0, .ref 6), (1, .int x1), (2, .int (0 : Int32))]) [1, 2, 0] rfl ?_
  exact T_LawReader_readLetter_b2 (g := g) N e he N x1 (0 : Int32) M
def F_LawReader_goesDeeper (x1 : Int32) (M : mj_M) : Option (Int32 × mj_M) :=
    if x1 < (6 : Int32) then
     (mj_lt (mj_u M 2 2 ((M 2 2) + (1 : Int32))) (fun M2 =>
     some ((1 : Int32), M2)))
     else
     ((F_Tape_fail (M 2 2) M).bind (fun q3 =>
     some ((0 : Int32), q3)))
set_option maxRecDepth 20000 in
theorem T_LawReader_goesDeeper {g : mj_G} : ∀ d, 2 ≤ d → ∀ (x1 : Int32) (M : mj_M), mj_Mt g (mj_qI g) d y_LawReader_goesDeeper c_LawReader_goesDeeper 2 (some .boolean) [.ref 6, .int x1] M (F_LawReader_goesDeeper x1 M) := by
  intro d hd x1 M
  obtain ⟨e, rfl⟩ : ∃ e, d = e + 1 := ⟨d - 1, by omega⟩
  have he : 1 ≤ e := by omega
  refine mj_met (by decide +kernel) (Nat.le_of_ble_eq_true rfl) ?_
  unfold F_LawReader_goesDeeper
  refine mj_L (L' := [(0, .ref 6), (1, .int x1)]) [0, 1] rfl ?_
  refine mj_iload_n (pc := 0) (i := 1) rfl dd_LawReader_goesDeeper_0 ?_
  refine mj_bipush (pc := 1) (v := (6 : Int32)) (by decide) dd_LawReader_goesDeeper_1 ?_
  refine mj_icmp_lt (pc := 3) (tgt := 22) dd_LawReader_goesDeeper_3 rfl (fun h1 => ?_) (fun h1 => ?_)
  · refine mj_aload_n (pc := 22) (i := 0) rfl dd_LawReader_goesDeeper_22 ?_
    refine mj_getR (pc := 23) (b := 6) (k := 2) qf_LawReader_15 sh_6 cl_4 rfl (by decide) (r := 2) rfl dd_LawReader_goesDeeper_23 ?_
    refine mj_dup (pc := 26) rfl dd_LawReader_goesDeeper_26 ?_
    refine mj_getI (pc := 27) (b := 2) (k := 2) qf_LawReader_70 sh_2 cl_10 rfl (by decide) rfl dd_LawReader_goesDeeper_27 ?_
    refine mj_iconst (pc := 30) (v := (1 : Int32)) (by decide) dd_LawReader_goesDeeper_30 ?_
    refine mj_iadd (pc := 31) dd_LawReader_goesDeeper_31 ?_
    refine mj_putI (pc := 32) (b := 2) (k := 2) qf_LawReader_70 sh_2 cl_10 rfl (by decide) (by decide) rfl rfl rfl dd_LawReader_goesDeeper_32 (fun M2 _ => ?_)
    refine mj_iconst (pc := 35) (v := (1 : Int32)) (by decide) dd_LawReader_goesDeeper_35 ?_
    exact mj_zret (by decide) dd_LawReader_goesDeeper_36 rfl rfl
  · refine mj_aload_n (pc := 6) (i := 0) rfl dd_LawReader_goesDeeper_6 ?_
    refine mj_getR (pc := 7) (b := 6) (k := 2) qf_LawReader_15 sh_6 cl_4 rfl (by decide) (r := 2) rfl dd_LawReader_goesDeeper_7 ?_
    refine mj_aload_n (pc := 10) (i := 0) rfl dd_LawReader_goesDeeper_10 ?_
    refine mj_getR (pc := 11) (b := 6) (k := 2) qf_LawReader_15 sh_6 cl_4 rfl (by decide) (r := 2) rfl dd_LawReader_goesDeeper_11 ?_
    refine mj_getI (pc := 14) (b := 2) (k := 2) qf_LawReader_70 sh_2 cl_10 rfl (by decide) rfl dd_LawReader_goesDeeper_14 ?_
    refine mj_callVV (pc := 17) (idx := 73) (b := 2) (As := [.int (M 2 2)]) (st := []) sh_2 cl_10 ev_Tape_fail ql_LawReader_73 rfl (Nat.le_of_ble_eq_true rfl) (T_Tape_fail (g := g) e (by omega) (M 2 2) M) dd_LawReader_goesDeeper_17 (fun q3 hq3 => ?_)
    refine mj_iconst (pc := 20) (v := (0 : Int32)) (by decide) dd_LawReader_goesDeeper_20 ?_
    exact mj_zret (by decide) dd_LawReader_goesDeeper_21 rfl rfl
def F_LawReader_readAtom_b41 (N : Nat) (K : Int32 → mj_M → Option (mj_M)) (x1 : Int32) (x2 : Int32) (M : mj_M) : Option (mj_M) :=
    if x2 = (91 : Int32) then
     ((F_LawReader_goesDeeper x1 M).bind (fun q8 =>
     if q8.1 = (0) then
     (some q8.2)
     else
     ((K (x1 + (1 : Int32)) q8.2).bind (fun q10 =>
     (F_Tape_demand N (93 : Int32) q10).bind (fun q11 =>
     some q11)))))
     else
     ((F_LawReader_readLetter N x2 M).bind (fun q7 =>
     some q7))
set_option maxRecDepth 20000 in
theorem T_LawReader_readAtom_b41 {g : mj_G} (N : Nat) (K : Int32 → mj_M → Option (mj_M)) (dk : Nat) (hdk : 8 ≤ dk) (hK : ∀ e, dk ≤ e → ∀ (a0 : Int32) (M : mj_M), mj_Mt g (mj_qV g) e y_LawReader_readSum c_LawReader_readSum 4 none [.ref 6, .int a0] M (K a0 M)) (e : Nat) (he : dk + 0 ≤ e) (x1 : Int32) (x2 : Int32) (M : mj_M) : mj_X g (mj_qV g) "WinterTellers$LawReader" c_LawReader_readAtom 3 none e 41 [(0, .ref 6), (1, .int x1), (2, .int x2)] [] M (F_LawReader_readAtom_b41 N K x1 x2 M) := by
  unfold F_LawReader_readAtom_b41
  refine mj_iload_n (pc := 41) (i := 2) rfl dd_LawReader_readAtom_41 ?_
  refine mj_bipush (pc := 42) (v := (91 : Int32)) (by decide) dd_LawReader_readAtom_42 ?_
  refine mj_icmp_ne (pc := 44) (tgt := 74) dd_LawReader_readAtom_44 rfl (fun h6 => ?_) (fun h6 => ?_)
  · refine mj_aload_n (pc := 47) (i := 0) rfl dd_LawReader_readAtom_47 ?_
    refine mj_iload_n (pc := 48) (i := 1) rfl dd_LawReader_readAtom_48 ?_
    refine mj_callVI (pc := 49) (idx := 67) (b := 6) (As := [.int x1]) (st := []) sh_6 cl_4 ev_LawReader_goesDeeper ql_LawReader_67 rfl (Nat.le_of_ble_eq_true rfl) (T_LawReader_goesDeeper (g := g) e (by omega) x1 M) dd_LawReader_readAtom_49 (fun q8 hq8 => ?_)
    refine mj_if_eq (pc := 52) (tgt := 79) dd_LawReader_readAtom_52 rfl (fun h9 => ?_) (fun h9 => ?_)
    · exact mj_vret dd_LawReader_readAtom_79 rfl rfl
    · refine mj_aload_n (pc := 55) (i := 0) rfl dd_LawReader_readAtom_55 ?_
      refine mj_iload_n (pc := 56) (i := 1) rfl dd_LawReader_readAtom_56 ?_
      refine mj_iconst (pc := 57) (v := (1 : Int32)) (by decide) dd_LawReader_readAtom_57 ?_
      refine mj_iadd (pc := 58) dd_LawReader_readAtom_58 ?_
      refine mj_callVV (pc := 59) (idx := 47) (b := 6) (As := [.int (x1 + (1 : Int32))]) (st := []) sh_6 cl_4 ev_LawReader_readSum ql_LawReader_47 rfl (Nat.le_of_ble_eq_true rfl) (hK e (by omega) (x1 + (1 : Int32)) q8.2) dd_LawReader_readAtom_59 (fun q10 hq10 => ?_)
      refine mj_aload_n (pc := 62) (i := 0) rfl dd_LawReader_readAtom_62 ?_
      refine mj_getR (pc := 63) (b := 6) (k := 2) qf_LawReader_15 sh_6 cl_4 rfl (by decide) (r := 2) rfl dd_LawReader_readAtom_63 ?_
      refine mj_bipush (pc := 66) (v := (93 : Int32)) (by decide) dd_LawReader_readAtom_66 ?_
      refine mj_callVV (pc := 68) (idx := 39) (b := 2) (As := [.int (93 : Int32)]) (st := []) sh_2 cl_10 ev_Tape_demand ql_LawReader_39 rfl (Nat.le_of_ble_eq_true rfl) (T_Tape_demand (g := g) N e (by omega) (93 : Int32) q10) dd_LawReader_readAtom_68 (fun q11 hq11 => ?_)
      refine mj_goto (pc := 71) (tgt := 79) dd_LawReader_readAtom_71 rfl ?_
      exact mj_vret dd_LawReader_readAtom_79 rfl rfl
  · refine mj_aload_n (pc := 74) (i := 0) rfl dd_LawReader_readAtom_74 ?_
    refine mj_iload_n (pc := 75) (i := 2) rfl dd_LawReader_readAtom_75 ?_
    refine mj_callVV (pc := 76) (idx := 86) (b := 6) (As := [.int x2]) (st := []) sh_6 cl_4 ev_LawReader_readLetter ql_LawReader_86 rfl (Nat.le_of_ble_eq_true rfl) (T_LawReader_readLetter (g := g) N e (by omega) x2 M) dd_LawReader_readAtom_76 (fun q7 hq7 => ?_)
    exact mj_vret dd_LawReader_readAtom_79 rfl rfl
def F_LawReader_readAtom (N : Nat) (K : Int32 → mj_M → Option (mj_M)) (x1 : Int32) (M : mj_M) : Option (mj_M) :=
    (F_Tape_peek N M).bind (fun q1 =>
     if q1.1 < (48 : Int32) then
     (F_LawReader_readAtom_b41 N K x1 q1.1 q1.2)
     else
     (if (57 : Int32) < q1.1 then
     (F_LawReader_readAtom_b41 N K x1 q1.1 q1.2)
     else
     ((F_Tape_number N (4 : Int32) (0 : Int32) (9999 : Int32) q1.2).bind (fun q4 =>
     (F_LawReader_write (48 : Int32) q4.1 q4.2).bind (fun q5 =>
     some q5)))))
set_option maxRecDepth 20000 in
theorem T_LawReader_readAtom {g : mj_G} (N : Nat) (K : Int32 → mj_M → Option (mj_M)) (dk : Nat) (hdk : 8 ≤ dk) (hK : ∀ e, dk ≤ e → ∀ (a0 : Int32) (M : mj_M), mj_Mt g (mj_qV g) e y_LawReader_readSum c_LawReader_readSum 4 none [.ref 6, .int a0] M (K a0 M)) : ∀ d, dk + 1 ≤ d → ∀ (x1 : Int32) (M : mj_M), mj_Mt g (mj_qV g) d y_LawReader_readAtom c_LawReader_readAtom 3 none [.ref 6, .int x1] M (F_LawReader_readAtom N K x1 M) := by
  intro d hd x1 M
  obtain ⟨e, rfl⟩ : ∃ e, d = e + 1 := ⟨d - 1, by omega⟩
  have he : dk + 0 ≤ e := by omega
  refine mj_met (by decide +kernel) (Nat.le_of_ble_eq_true rfl) ?_
  unfold F_LawReader_readAtom
  refine mj_L (L' := [(0, .ref 6), (1, .int x1)]) [0, 1] rfl ?_
  refine mj_aload_n (pc := 0) (i := 0) rfl dd_LawReader_readAtom_0 ?_
  refine mj_getR (pc := 1) (b := 6) (k := 2) qf_LawReader_15 sh_6 cl_4 rfl (by decide) (r := 2) rfl dd_LawReader_readAtom_1 ?_
  refine mj_callVI (pc := 4) (idx := 43) (b := 2) (As := []) (st := []) sh_2 cl_10 ev_Tape_peek ql_LawReader_43 rfl (Nat.le_of_ble_eq_true rfl) (T_Tape_peek (g := g) N e (by omega) M) dd_LawReader_readAtom_4 (fun q1 hq1 => ?_)
  refine mj_istore_n (pc := 7) (by decide) dd_LawReader_readAtom_7 ?_
  refine mj_L (L' := [(2, .int q1.1), (0, .ref 6), (1, .int x1)]) [0, 1, 2] rfl ?_
  refine mj_iload_n (pc := 8) (i := 2) rfl dd_LawReader_readAtom_8 ?_
  refine mj_bipush (pc := 9) (v := (48 : Int32)) (by decide) dd_LawReader_readAtom_9 ?_
  refine mj_icmp_lt (pc := 11) (tgt := 41) dd_LawReader_readAtom_11 rfl (fun h2 => ?_) (fun h2 => ?_)
  · refine mj_L (L' := [(0, .ref 6), (1, .int x1), (2, .int q1.1)]) [1, 2, 0] rfl ?_
    exact T_LawReader_readAtom_b41 (g := g) N K dk hdk hK e he x1 q1.1 q1.2
  · refine mj_iload_n (pc := 14) (i := 2) rfl dd_LawReader_readAtom_14 ?_
    refine mj_bipush (pc := 15) (v := (57 : Int32)) (by decide) dd_LawReader_readAtom_15 ?_
    refine mj_icmp_gt (pc := 17) (tgt := 41) dd_LawReader_readAtom_17 rfl (fun h3 => ?_) (fun h3 => ?_)
    · refine mj_L (L' := [(0, .ref 6), (1, .int x1), (2, .int q1.1)]) [1, 2, 0] rfl ?_
      exact T_LawReader_readAtom_b41 (g := g) N K dk hdk hK e he x1 q1.1 q1.2
    · refine mj_aload_n (pc := 20) (i := 0) rfl dd_LawReader_readAtom_20 ?_
      refine mj_bipush (pc := 21) (v := (48 : Int32)) (by decide) dd_LawReader_readAtom_21 ?_
      refine mj_aload_n (pc := 23) (i := 0) rfl dd_LawReader_readAtom_23 ?_
      refine mj_getR (pc := 24) (b := 6) (k := 2) qf_LawReader_15 sh_6 cl_4 rfl (by decide) (r := 2) rfl dd_LawReader_readAtom_24 ?_
      refine mj_iconst (pc := 27) (v := (4 : Int32)) (by decide) dd_LawReader_readAtom_27 ?_
      refine mj_iconst (pc := 28) (v := (0 : Int32)) (by decide) dd_LawReader_readAtom_28 ?_
      refine mj_sipush (pc := 29) (v := (9999 : Int32)) (by decide) dd_LawReader_readAtom_29 ?_
      refine mj_callVI (pc := 32) (idx := 82) (b := 2) (As := [.int (4 : Int32), .int (0 : Int32), .int (9999 : Int32)]) (st := [.int (48 : Int32), .ref 6]) sh_2 cl_10 ev_Tape_number ql_LawReader_82 rfl (Nat.le_of_ble_eq_true rfl) (T_Tape_number (g := g) N e (by omega) (4 : Int32) (0 : Int32) (9999 : Int32) q1.2) dd_LawReader_readAtom_32 (fun q4 hq4 => ?_)
      refine mj_callVV (pc := 35) (idx := 57) (b := 6) (As := [.int (48 : Int32), .int q4.1]) (st := []) sh_6 cl_4 ev_LawReader_write ql_LawReader_57 rfl (Nat.le_of_ble_eq_true rfl) (T_LawReader_write (g := g) e (by omega) (48 : Int32) q4.1 q4.2) dd_LawReader_readAtom_35 (fun q5 hq5 => ?_)
      refine mj_goto (pc := 38) (tgt := 79) dd_LawReader_readAtom_38 rfl ?_
      exact mj_vret dd_LawReader_readAtom_79 rfl rfl
def F_LawReader_readTerm_b35 (N : Nat) (K : Int32 → mj_M → Option (mj_M)) (k7 : Int32 → Int32 → mj_M → Option (mj_M)) (x1 : Int32) (x2 : Int32) (x3 : Int32) (M : mj_M) : Option (mj_M) :=
    mj_lt (mj_u M 2 2 ((M 2 2) + (1 : Int32))) (fun M6 =>
     (F_LawReader_readAtom N K x1 M6).bind (fun q7 =>
     (F_LawReader_write x3 (0 : Int32) q7).bind (fun q8 =>
     k7 x1 (x2 + (1 : Int32)) q8)))
set_option maxRecDepth 20000 in
theorem T_LawReader_readTerm_b35 {g : mj_G} (N : Nat) (K : Int32 → mj_M → Option (mj_M)) (dk : Nat) (hdk : 8 ≤ dk) (hK : ∀ e, dk ≤ e → ∀ (a0 : Int32) (M : mj_M), mj_Mt g (mj_qV g) e y_LawReader_readSum c_LawReader_readSum 4 none [.ref 6, .int a0] M (K a0 M)) (e : Nat) (he : dk + 1 ≤ e) (k7 : Int32 → Int32 → mj_M → Option (mj_M)) (hk7 : ∀ (x1 : Int32) (x2 : Int32) (M : mj_M), mj_X g (mj_qV g) "WinterTellers$LawReader" c_LawReader_readTerm 4 none e 7 [(0, .ref 6), (1, .int x1), (2, .int x2)] [] M (k7 x1 x2 M)) (x1 : Int32) (x2 : Int32) (x3 : Int32) (M : mj_M) : mj_X g (mj_qV g) "WinterTellers$LawReader" c_LawReader_readTerm 4 none e 35 [(0, .ref 6), (1, .int x1), (2, .int x2), (3, .int x3)] [] M (F_LawReader_readTerm_b35 N K k7 x1 x2 x3 M) := by
  unfold F_LawReader_readTerm_b35
  refine mj_aload_n (pc := 35) (i := 0) rfl dd_LawReader_readTerm_35 ?_
  refine mj_getR (pc := 36) (b := 6) (k := 2) qf_LawReader_15 sh_6 cl_4 rfl (by decide) (r := 2) rfl dd_LawReader_readTerm_36 ?_
  refine mj_dup (pc := 39) rfl dd_LawReader_readTerm_39 ?_
  refine mj_getI (pc := 40) (b := 2) (k := 2) qf_LawReader_70 sh_2 cl_10 rfl (by decide) rfl dd_LawReader_readTerm_40 ?_
  refine mj_iconst (pc := 43) (v := (1 : Int32)) (by decide) dd_LawReader_readTerm_43 ?_
  refine mj_iadd (pc := 44) dd_LawReader_readTerm_44 ?_
  refine mj_putI (pc := 45) (b := 2) (k := 2) qf_LawReader_70 sh_2 cl_10 rfl (by decide) (by decide) rfl rfl rfl dd_LawReader_readTerm_45 (fun M6 _ => ?_)
  refine mj_aload_n (pc := 48) (i := 0) rfl dd_LawReader_readTerm_48 ?_
  refine mj_iload_n (pc := 49) (i := 1) rfl dd_LawReader_readTerm_49 ?_
  refine mj_callVV (pc := 50) (idx := 79) (b := 6) (As := [.int x1]) (st := []) sh_6 cl_4 ev_LawReader_readAtom ql_LawReader_79 rfl (Nat.le_of_ble_eq_true rfl) (T_LawReader_readAtom (g := g) N K dk hdk hK e (by omega) x1 M6) dd_LawReader_readTerm_50 (fun q7 hq7 => ?_)
  refine mj_aload_n (pc := 53) (i := 0) rfl dd_LawReader_readTerm_53 ?_
  refine mj_iload_n (pc := 54) (i := 3) rfl dd_LawReader_readTerm_54 ?_
  refine mj_iconst (pc := 55) (v := (0 : Int32)) (by decide) dd_LawReader_readTerm_55 ?_
  refine mj_callVV (pc := 56) (idx := 57) (b := 6) (As := [.int x3, .int (0 : Int32)]) (st := []) sh_6 cl_4 ev_LawReader_write ql_LawReader_57 rfl (Nat.le_of_ble_eq_true rfl) (T_LawReader_write (g := g) e (by omega) x3 (0 : Int32) q7) dd_LawReader_readTerm_56 (fun q8 hq8 => ?_)
  refine mj_iinc (pc := 59) (i := 2) (z := (1 : Int32)) rfl (by decide) (by decide) dd_LawReader_readTerm_59 ?_
  refine mj_L (L' := [(2, .int (x2 + (1 : Int32))), (0, .ref 6), (1, .int x1)]) [0, 1, 2] rfl ?_
  refine mj_goto (pc := 62) (tgt := 7) dd_LawReader_readTerm_62 rfl ?_
  refine mj_L (L' := [(0, .ref 6), (1, .int x1), (2, .int (x2 + (1 : Int32)))]) [1, 2, 0] rfl ?_
  exact hk7 x1 (x2 + (1 : Int32)) q8
def F_LawReader_readTerm_b7 (N : Nat) (K : Int32 → mj_M → Option (mj_M)) : Nat → Int32 → Int32 → mj_M → Option (mj_M)
  | 0, _, _, _ => none
  | n + 1, x1, x2, M =>
    if (240 : Int32) ≤ x2 then
     (some M)
     else
     ((F_Tape_peek N M).bind (fun q3 =>
     if q3.1 = (42 : Int32) then
     (F_LawReader_readTerm_b35 N K (F_LawReader_readTerm_b7 N K n) x1 x2 q3.1 q3.2)
     else
     (if q3.1 = (47 : Int32) then
     (F_LawReader_readTerm_b35 N K (F_LawReader_readTerm_b7 N K n) x1 x2 q3.1 q3.2)
     else
     (some q3.2))))
set_option maxRecDepth 20000 in
theorem T_LawReader_readTerm_b7 {g : mj_G} (N : Nat) (K : Int32 → mj_M → Option (mj_M)) (dk : Nat) (hdk : 8 ≤ dk) (hK : ∀ e, dk ≤ e → ∀ (a0 : Int32) (M : mj_M), mj_Mt g (mj_qV g) e y_LawReader_readSum c_LawReader_readSum 4 none [.ref 6, .int a0] M (K a0 M)) (e : Nat) (he : dk + 1 ≤ e) : ∀ (n : Nat) (x1 : Int32) (x2 : Int32) (M : mj_M), mj_X g (mj_qV g) "WinterTellers$LawReader" c_LawReader_readTerm 4 none e 7 [(0, .ref 6), (1, .int x1), (2, .int x2)] [] M (F_LawReader_readTerm_b7 N K n x1 x2 M) := by
  intro n
  induction n with
  | zero => intro x1 x2 M; exact mj_none
  | succ n ih =>
    intro x1 x2 M
    rw [F_LawReader_readTerm_b7]
    refine mj_iload_n (pc := 7) (i := 2) rfl dd_LawReader_readTerm_7 ?_
    refine mj_sipush (pc := 8) (v := (240 : Int32)) (by decide) dd_LawReader_readTerm_8 ?_
    refine mj_icmp_ge (pc := 11) (tgt := 65) dd_LawReader_readTerm_11 rfl (fun h2 => ?_) (fun h2 => ?_)
    · exact mj_vret dd_LawReader_readTerm_65 rfl rfl
    · refine mj_aload_n (pc := 14) (i := 0) rfl dd_LawReader_readTerm_14 ?_
      refine mj_getR (pc := 15) (b := 6) (k := 2) qf_LawReader_15 sh_6 cl_4 rfl (by decide) (r := 2) rfl dd_LawReader_readTerm_15 ?_
      refine mj_callVI (pc := 18) (idx := 43) (b := 2) (As := []) (st := []) sh_2 cl_10 ev_Tape_peek ql_LawReader_43 rfl (Nat.le_of_ble_eq_true rfl) (T_Tape_peek (g := g) N e (by omega) M) dd_LawReader_readTerm_18 (fun q3 hq3 => ?_)
      refine mj_istore_n (pc := 21) (by decide) dd_LawReader_readTerm_21 ?_
      refine mj_L (L' := [(3, .int q3.1), (0, .ref 6), (1, .int x1), (2, .int x2)]) [0, 1, 2, 3] rfl ?_
      refine mj_iload_n (pc := 22) (i := 3) rfl dd_LawReader_readTerm_22 ?_
      refine mj_bipush (pc := 23) (v := (42 : Int32)) (by decide) dd_LawReader_readTerm_23 ?_
      refine mj_icmp_eq (pc := 25) (tgt := 35) dd_LawReader_readTerm_25 rfl (fun h4 => ?_) (fun h4 => ?_)
      · refine mj_L (L' := [(0, .ref 6), (1, .int x1), (2, .int x2), (3, .int q3.1)]) [1, 2, 3, 0] rfl ?_
        exact T_LawReader_readTerm_b35 (g := g) N K dk hdk hK e he (F_LawReader_readTerm_b7 N K n) ih x1 x2 q3.1 q3.2
      · refine mj_iload_n (pc := 28) (i := 3) rfl dd_LawReader_readTerm_28 ?_
        refine mj_bipush (pc := 29) (v := (47 : Int32)) (by decide) dd_LawReader_readTerm_29 ?_
        refine mj_icmp_eq (pc := 31) (tgt := 35) dd_LawReader_readTerm_31 rfl (fun h5 => ?_) (fun h5 => ?_)
        · refine mj_L (L' := [(0, .ref 6), (1, .int x1), (2, .int x2), (3, .int q3.1)]) [1, 2, 3, 0] rfl ?_
          exact T_LawReader_readTerm_b35 (g := g) N K dk hdk hK e he (F_LawReader_readTerm_b7 N K n) ih x1 x2 q3.1 q3.2
        · exact mj_vret dd_LawReader_readTerm_34 rfl rfl
def F_LawReader_readTerm (N : Nat) (K : Int32 → mj_M → Option (mj_M)) (x1 : Int32) (M : mj_M) : Option (mj_M) :=
    (F_LawReader_readAtom N K x1 M).bind (fun q1 =>
     F_LawReader_readTerm_b7 N K N x1 (0 : Int32) q1)
set_option maxRecDepth 20000 in
theorem T_LawReader_readTerm {g : mj_G} (N : Nat) (K : Int32 → mj_M → Option (mj_M)) (dk : Nat) (hdk : 8 ≤ dk) (hK : ∀ e, dk ≤ e → ∀ (a0 : Int32) (M : mj_M), mj_Mt g (mj_qV g) e y_LawReader_readSum c_LawReader_readSum 4 none [.ref 6, .int a0] M (K a0 M)) : ∀ d, dk + 2 ≤ d → ∀ (x1 : Int32) (M : mj_M), mj_Mt g (mj_qV g) d y_LawReader_readTerm c_LawReader_readTerm 4 none [.ref 6, .int x1] M (F_LawReader_readTerm N K x1 M) := by
  intro d hd x1 M
  obtain ⟨e, rfl⟩ : ∃ e, d = e + 1 := ⟨d - 1, by omega⟩
  have he : dk + 1 ≤ e := by omega
  refine mj_met (by decide +kernel) (Nat.le_of_ble_eq_true rfl) ?_
  unfold F_LawReader_readTerm
  refine mj_L (L' := [(0, .ref 6), (1, .int x1)]) [0, 1] rfl ?_
  refine mj_aload_n (pc := 0) (i := 0) rfl dd_LawReader_readTerm_0 ?_
  refine mj_iload_n (pc := 1) (i := 1) rfl dd_LawReader_readTerm_1 ?_
  refine mj_callVV (pc := 2) (idx := 79) (b := 6) (As := [.int x1]) (st := []) sh_6 cl_4 ev_LawReader_readAtom ql_LawReader_79 rfl (Nat.le_of_ble_eq_true rfl) (T_LawReader_readAtom (g := g) N K dk hdk hK e (by omega) x1 M) dd_LawReader_readTerm_2 (fun q1 hq1 => ?_)
  refine mj_iconst (pc := 5) (v := (0 : Int32)) (by decide) dd_LawReader_readTerm_5 ?_
  refine mj_istore_n (pc := 6) (by decide) dd_LawReader_readTerm_6 ?_
  refine mj_L (L' := [(2, .int (0 : Int32)), (0, .ref 6), (1, .int x1)]) [0, 1, 2] rfl ?_
  refine mj_L (L' := [(0, .ref 6), (1, .int x1), (2, .int (0 : Int32))]) [1, 2, 0] rfl ?_
  exact T_LawReader_readTerm_b7 (g := g) N K dk hdk hK e he N x1 (0 : Int32) q1
def F_LawReader_readSum_body_b35 (N : Nat) (K : Int32 → mj_M → Option (mj_M)) (k7 : Int32 → Int32 → mj_M → Option (mj_M)) (x1 : Int32) (x2 : Int32) (x3 : Int32) (M : mj_M) : Option (mj_M) :=
    mj_lt (mj_u M 2 2 ((M 2 2) + (1 : Int32))) (fun M6 =>
     (F_LawReader_readTerm N K x1 M6).bind (fun q7 =>
     (F_LawReader_write x3 (0 : Int32) q7).bind (fun q8 =>
     k7 x1 (x2 + (1 : Int32)) q8)))
set_option maxRecDepth 20000 in
theorem T_LawReader_readSum_body_b35 {g : mj_G} (N : Nat) (K : Int32 → mj_M → Option (mj_M)) (dk : Nat) (hdk : 8 ≤ dk) (hK : ∀ e, dk ≤ e → ∀ (a0 : Int32) (M : mj_M), mj_Mt g (mj_qV g) e y_LawReader_readSum c_LawReader_readSum 4 none [.ref 6, .int a0] M (K a0 M)) (e : Nat) (he : dk + 2 ≤ e) (k7 : Int32 → Int32 → mj_M → Option (mj_M)) (hk7 : ∀ (x1 : Int32) (x2 : Int32) (M : mj_M), mj_X g (mj_qV g) "WinterTellers$LawReader" c_LawReader_readSum 4 none e 7 [(0, .ref 6), (1, .int x1), (2, .int x2)] [] M (k7 x1 x2 M)) (x1 : Int32) (x2 : Int32) (x3 : Int32) (M : mj_M) : mj_X g (mj_qV g) "WinterTellers$LawReader" c_LawReader_readSum 4 none e 35 [(0, .ref 6), (1, .int x1), (2, .int x2), (3, .int x3)] [] M (F_LawReader_readSum_body_b35 N K k7 x1 x2 x3 M) := by
  unfold F_LawReader_readSum_body_b35
  refine mj_aload_n (pc := 35) (i := 0) rfl dd_LawReader_readSum_35 ?_
  refine mj_getR (pc := 36) (b := 6) (k := 2) qf_LawReader_15 sh_6 cl_4 rfl (by decide) (r := 2) rfl dd_LawReader_readSum_36 ?_
  refine mj_dup (pc := 39) rfl dd_LawReader_readSum_39 ?_
  refine mj_getI (pc := 40) (b := 2) (k := 2) qf_LawReader_70 sh_2 cl_10 rfl (by decide) rfl dd_LawReader_readSum_40 ?_
  refine mj_iconst (pc := 43) (v := (1 : Int32)) (by decide) dd_LawReader_readSum_43 ?_
  refine mj_iadd (pc := 44) dd_LawReader_readSum_44 ?_
  refine mj_putI (pc := 45) (b := 2) (k := 2) qf_LawReader_70 sh_2 cl_10 rfl (by decide) (by decide) rfl rfl rfl dd_LawReader_readSum_45 (fun M6 _ => ?_)
  refine mj_aload_n (pc := 48) (i := 0) rfl dd_LawReader_readSum_48 ?_
  refine mj_iload_n (pc := 49) (i := 1) rfl dd_LawReader_readSum_49 ?_
  refine mj_callVV (pc := 50) (idx := 76) (b := 6) (As := [.int x1]) (st := []) sh_6 cl_4 ev_LawReader_readTerm ql_LawReader_76 rfl (Nat.le_of_ble_eq_true rfl) (T_LawReader_readTerm (g := g) N K dk hdk hK e (by omega) x1 M6) dd_LawReader_readSum_50 (fun q7 hq7 => ?_)
  refine mj_aload_n (pc := 53) (i := 0) rfl dd_LawReader_readSum_53 ?_
  refine mj_iload_n (pc := 54) (i := 3) rfl dd_LawReader_readSum_54 ?_
  refine mj_iconst (pc := 55) (v := (0 : Int32)) (by decide) dd_LawReader_readSum_55 ?_
  refine mj_callVV (pc := 56) (idx := 57) (b := 6) (As := [.int x3, .int (0 : Int32)]) (st := []) sh_6 cl_4 ev_LawReader_write ql_LawReader_57 rfl (Nat.le_of_ble_eq_true rfl) (T_LawReader_write (g := g) e (by omega) x3 (0 : Int32) q7) dd_LawReader_readSum_56 (fun q8 hq8 => ?_)
  refine mj_iinc (pc := 59) (i := 2) (z := (1 : Int32)) rfl (by decide) (by decide) dd_LawReader_readSum_59 ?_
  refine mj_L (L' := [(2, .int (x2 + (1 : Int32))), (0, .ref 6), (1, .int x1)]) [0, 1, 2] rfl ?_
  refine mj_goto (pc := 62) (tgt := 7) dd_LawReader_readSum_62 rfl ?_
  refine mj_L (L' := [(0, .ref 6), (1, .int x1), (2, .int (x2 + (1 : Int32)))]) [1, 2, 0] rfl ?_
  exact hk7 x1 (x2 + (1 : Int32)) q8
def F_LawReader_readSum_body_b7 (N : Nat) (K : Int32 → mj_M → Option (mj_M)) : Nat → Int32 → Int32 → mj_M → Option (mj_M)
  | 0, _, _, _ => none
  | n + 1, x1, x2, M =>
    if (240 : Int32) ≤ x2 then
     (some M)
     else
     ((F_Tape_peek N M).bind (fun q3 =>
     if q3.1 = (43 : Int32) then
     (F_LawReader_readSum_body_b35 N K (F_LawReader_readSum_body_b7 N K n) x1 x2 q3.1 q3.2)
     else
     (if q3.1 = (45 : Int32) then
     (F_LawReader_readSum_body_b35 N K (F_LawReader_readSum_body_b7 N K n) x1 x2 q3.1 q3.2)
     else
     (some q3.2))))
set_option maxRecDepth 20000 in
theorem T_LawReader_readSum_body_b7 {g : mj_G} (N : Nat) (K : Int32 → mj_M → Option (mj_M)) (dk : Nat) (hdk : 8 ≤ dk) (hK : ∀ e, dk ≤ e → ∀ (a0 : Int32) (M : mj_M), mj_Mt g (mj_qV g) e y_LawReader_readSum c_LawReader_readSum 4 none [.ref 6, .int a0] M (K a0 M)) (e : Nat) (he : dk + 2 ≤ e) : ∀ (n : Nat) (x1 : Int32) (x2 : Int32) (M : mj_M), mj_X g (mj_qV g) "WinterTellers$LawReader" c_LawReader_readSum 4 none e 7 [(0, .ref 6), (1, .int x1), (2, .int x2)] [] M (F_LawReader_readSum_body_b7 N K n x1 x2 M) := by
  intro n
  induction n with
  | zero => intro x1 x2 M; exact mj_none
  | succ n ih =>
    intro x1 x2 M
    rw [F_LawReader_readSum_body_b7]
    refine mj_iload_n (pc := 7) (i := 2) rfl dd_LawReader_readSum_7 ?_
    refine mj_sipush (pc := 8) (v := (240 : Int32)) (by decide) dd_LawReader_readSum_8 ?_
    refine mj_icmp_ge (pc := 11) (tgt := 65) dd_LawReader_readSum_11 rfl (fun h2 => ?_) (fun h2 => ?_)
    · exact mj_vret dd_LawReader_readSum_65 rfl rfl
    · refine mj_aload_n (pc := 14) (i := 0) rfl dd_LawReader_readSum_14 ?_
      refine mj_getR (pc := 15) (b := 6) (k := 2) qf_LawReader_15 sh_6 cl_4 rfl (by decide) (r := 2) rfl dd_LawReader_readSum_15 ?_
      refine mj_callVI (pc := 18) (idx := 43) (b := 2) (As := []) (st := []) sh_2 cl_10 ev_Tape_peek ql_LawReader_43 rfl (Nat.le_of_ble_eq_true rfl) (T_Tape_peek (g := g) N e (by omega) M) dd_LawReader_readSum_18 (fun q3 hq3 => ?_)
      refine mj_istore_n (pc := 21) (by decide) dd_LawReader_readSum_21 ?_
      refine mj_L (L' := [(3, .int q3.1), (0, .ref 6), (1, .int x1), (2, .int x2)]) [0, 1, 2, 3] rfl ?_
      refine mj_iload_n (pc := 22) (i := 3) rfl dd_LawReader_readSum_22 ?_
      refine mj_bipush (pc := 23) (v := (43 : Int32)) (by decide) dd_LawReader_readSum_23 ?_
      refine mj_icmp_eq (pc := 25) (tgt := 35) dd_LawReader_readSum_25 rfl (fun h4 => ?_) (fun h4 => ?_)
      · refine mj_L (L' := [(0, .ref 6), (1, .int x1), (2, .int x2), (3, .int q3.1)]) [1, 2, 3, 0] rfl ?_
        exact T_LawReader_readSum_body_b35 (g := g) N K dk hdk hK e he (F_LawReader_readSum_body_b7 N K n) ih x1 x2 q3.1 q3.2
      · refine mj_iload_n (pc := 28) (i := 3) rfl dd_LawReader_readSum_28 ?_
        refine mj_bipush (pc := 29) (v := (45 : Int32)) (by decide) dd_LawReader_readSum_29 ?_
        refine mj_icmp_eq (pc := 31) (tgt := 35) dd_LawReader_readSum_31 rfl (fun h5 => ?_) (fun h5 => ?_)
        · refine mj_L (L' := [(0, .ref 6), (1, .int x1), (2, .int x2), (3, .int q3.1)]) [1, 2, 3, 0] rfl ?_
          exact T_LawReader_readSum_body_b35 (g := g) N K dk hdk hK e he (F_LawReader_readSum_body_b7 N K n) ih x1 x2 q3.1 q3.2
        · exact mj_vret dd_LawReader_readSum_34 rfl rfl
def F_LawReader_readSum_body (N : Nat) (K : Int32 → mj_M → Option (mj_M)) (x1 : Int32) (M : mj_M) : Option (mj_M) :=
    (F_LawReader_readTerm N K x1 M).bind (fun q1 =>
     F_LawReader_readSum_body_b7 N K N x1 (0 : Int32) q1)
set_option maxRecDepth 20000 in
theorem T_LawReader_readSum_body {g : mj_G} (N : Nat) (K : Int32 → mj_M → Option (mj_M)) (dk : Nat) (hdk : 8 ≤ dk) (hK : ∀ e, dk ≤ e → ∀ (a0 : Int32) (M : mj_M), mj_Mt g (mj_qV g) e y_LawReader_readSum c_LawReader_readSum 4 none [.ref 6, .int a0] M (K a0 M)) : ∀ d, dk + 3 ≤ d → ∀ (x1 : Int32) (M : mj_M), mj_Mt g (mj_qV g) d y_LawReader_readSum c_LawReader_readSum 4 none [.ref 6, .int x1] M (F_LawReader_readSum_body N K x1 M) := by
  intro d hd x1 M
  obtain ⟨e, rfl⟩ : ∃ e, d = e + 1 := ⟨d - 1, by omega⟩
  have he : dk + 2 ≤ e := by omega
  refine mj_met (by decide +kernel) (Nat.le_of_ble_eq_true rfl) ?_
  unfold F_LawReader_readSum_body
  refine mj_L (L' := [(0, .ref 6), (1, .int x1)]) [0, 1] rfl ?_
  refine mj_aload_n (pc := 0) (i := 0) rfl dd_LawReader_readSum_0 ?_
  refine mj_iload_n (pc := 1) (i := 1) rfl dd_LawReader_readSum_1 ?_
  refine mj_callVV (pc := 2) (idx := 76) (b := 6) (As := [.int x1]) (st := []) sh_6 cl_4 ev_LawReader_readTerm ql_LawReader_76 rfl (Nat.le_of_ble_eq_true rfl) (T_LawReader_readTerm (g := g) N K dk hdk hK e (by omega) x1 M) dd_LawReader_readSum_2 (fun q1 hq1 => ?_)
  refine mj_iconst (pc := 5) (v := (0 : Int32)) (by decide) dd_LawReader_readSum_5 ?_
  refine mj_istore_n (pc := 6) (by decide) dd_LawReader_readSum_6 ?_
  refine mj_L (L' := [(2, .int (0 : Int32)), (0, .ref 6), (1, .int x1)]) [0, 1, 2] rfl ?_
  refine mj_L (L' := [(0, .ref 6), (1, .int x1), (2, .int (0 : Int32))]) [1, 2, 0] rfl ?_
  exact T_LawReader_readSum_body_b7 (g := g) N K dk hdk hK e he N x1 (0 : Int32) q1
def F_LawReader_readSum (N : Nat) : Nat → Int32 → mj_M → Option (mj_M)
  | 0, _, _ => none
  | n + 1, x1, M => F_LawReader_readSum_body N (F_LawReader_readSum N n) x1 M
theorem T_LawReader_readSum {g : mj_G} (N : Nat) : ∀ (n d : Nat), 8 + 4 * n ≤ d → ∀ (x1 : Int32) (M : mj_M), mj_Mt g (mj_qV g) d y_LawReader_readSum c_LawReader_readSum 4 none [.ref 6, .int x1] M (F_LawReader_readSum N n x1 M) := by
  intro n
  induction n with
  | zero => intro d _ x1 M q hq; cases hq
  | succ n ih =>
    intro d hd x1 M
    exact T_LawReader_readSum_body (g := g) N (F_LawReader_readSum N n) (8 + 4 * n) (by omega) (fun e he => ih e he) d (by omega) x1 M
def F_LawReader_isComparison (x0 : Int32) (M : mj_M) : Option (Int32 × mj_M) :=
    if x0 = (61 : Int32) then
     (some ((1 : Int32), M))
     else
     (if x0 = (60 : Int32) then
     (some ((1 : Int32), M))
     else
     (if x0 = (62 : Int32) then
     (some ((1 : Int32), M))
     else
     (some ((0 : Int32), M))))
set_option maxRecDepth 20000 in
theorem T_LawReader_isComparison {g : mj_G} : ∀ d, 1 ≤ d → ∀ (x0 : Int32) (M : mj_M), mj_Mt g (mj_qI g) d y_LawReader_isComparison c_LawReader_isComparison 1 (some .boolean) [.int x0] M (F_LawReader_isComparison x0 M) := by
  intro d hd x0 M
  obtain ⟨e, rfl⟩ : ∃ e, d = e + 1 := ⟨d - 1, by omega⟩
  have he : 0 ≤ e := by omega
  refine mj_met (by decide +kernel) (Nat.le_of_ble_eq_true rfl) ?_
  unfold F_LawReader_isComparison
  refine mj_L (L' := [(0, .int x0)]) [0] rfl ?_
  refine mj_iload_n (pc := 0) (i := 0) rfl dd_LawReader_isComparison_0 ?_
  refine mj_bipush (pc := 1) (v := (61 : Int32)) (by decide) dd_LawReader_isComparison_1 ?_
  refine mj_icmp_eq (pc := 3) (tgt := 18) dd_LawReader_isComparison_3 rfl (fun h1 => ?_) (fun h1 => ?_)
  · refine mj_iconst (pc := 18) (v := (1 : Int32)) (by decide) dd_LawReader_isComparison_18 ?_
    refine mj_goto (pc := 19) (tgt := 23) dd_LawReader_isComparison_19 rfl ?_
    exact mj_zret (by decide) dd_LawReader_isComparison_23 rfl rfl
  · refine mj_iload_n (pc := 6) (i := 0) rfl dd_LawReader_isComparison_6 ?_
    refine mj_bipush (pc := 7) (v := (60 : Int32)) (by decide) dd_LawReader_isComparison_7 ?_
    refine mj_icmp_eq (pc := 9) (tgt := 18) dd_LawReader_isComparison_9 rfl (fun h2 => ?_) (fun h2 => ?_)
    · refine mj_iconst (pc := 18) (v := (1 : Int32)) (by decide) dd_LawReader_isComparison_18 ?_
      refine mj_goto (pc := 19) (tgt := 23) dd_LawReader_isComparison_19 rfl ?_
      exact mj_zret (by decide) dd_LawReader_isComparison_23 rfl rfl
    · refine mj_iload_n (pc := 12) (i := 0) rfl dd_LawReader_isComparison_12 ?_
      refine mj_bipush (pc := 13) (v := (62 : Int32)) (by decide) dd_LawReader_isComparison_13 ?_
      refine mj_icmp_ne (pc := 15) (tgt := 22) dd_LawReader_isComparison_15 rfl (fun h3 => ?_) (fun h3 => ?_)
      · refine mj_iconst (pc := 18) (v := (1 : Int32)) (by decide) dd_LawReader_isComparison_18 ?_
        refine mj_goto (pc := 19) (tgt := 23) dd_LawReader_isComparison_19 rfl ?_
        exact mj_zret (by decide) dd_LawReader_isComparison_23 rfl rfl
      · refine mj_iconst (pc := 22) (v := (0 : Int32)) (by decide) dd_LawReader_isComparison_22 ?_
        exact mj_zret (by decide) dd_LawReader_isComparison_23 rfl rfl
def F_Tape_takes (N : Nat) (x1 : Int32) (M : mj_M) : Option (Int32 × mj_M) :=
    (F_Tape_peek N M).bind (fun q1 =>
     if q1.1 = x1 then
     (mj_lt (mj_u q1.2 2 2 ((q1.2 2 2) + (1 : Int32))) (fun M3 =>
     some ((1 : Int32), M3)))
     else
     (some ((0 : Int32), q1.2)))
set_option maxRecDepth 20000 in
theorem T_Tape_takes {g : mj_G} (N : Nat) : ∀ d, 3 ≤ d → ∀ (x1 : Int32) (M : mj_M), mj_Mt g (mj_qI g) d y_Tape_takes c_Tape_takes 2 (some .boolean) [.ref 2, .int x1] M (F_Tape_takes N x1 M) := by
  intro d hd x1 M
  obtain ⟨e, rfl⟩ : ∃ e, d = e + 1 := ⟨d - 1, by omega⟩
  have he : 2 ≤ e := by omega
  refine mj_met (by decide +kernel) (Nat.le_of_ble_eq_true rfl) ?_
  unfold F_Tape_takes
  refine mj_L (L' := [(0, .ref 2), (1, .int x1)]) [0, 1] rfl ?_
  refine mj_aload_n (pc := 0) (i := 0) rfl dd_Tape_takes_0 ?_
  refine mj_callVI (pc := 1) (idx := 28) (b := 2) (As := []) (st := []) sh_2 cl_10 ev_Tape_peek ql_Tape_28 rfl (Nat.le_of_ble_eq_true rfl) (T_Tape_peek (g := g) N e (by omega) M) dd_Tape_takes_1 (fun q1 hq1 => ?_)
  refine mj_iload_n (pc := 4) (i := 1) rfl dd_Tape_takes_4 ?_
  refine mj_icmp_eq (pc := 5) (tgt := 10) dd_Tape_takes_5 rfl (fun h2 => ?_) (fun h2 => ?_)
  · refine mj_aload_n (pc := 10) (i := 0) rfl dd_Tape_takes_10 ?_
    refine mj_dup (pc := 11) rfl dd_Tape_takes_11 ?_
    refine mj_getI (pc := 12) (b := 2) (k := 2) qf_Tape_19 sh_2 cl_10 rfl (by decide) rfl dd_Tape_takes_12 ?_
    refine mj_iconst (pc := 15) (v := (1 : Int32)) (by decide) dd_Tape_takes_15 ?_
    refine mj_iadd (pc := 16) dd_Tape_takes_16 ?_
    refine mj_putI (pc := 17) (b := 2) (k := 2) qf_Tape_19 sh_2 cl_10 rfl (by decide) (by decide) rfl rfl rfl dd_Tape_takes_17 (fun M3 _ => ?_)
    refine mj_iconst (pc := 20) (v := (1 : Int32)) (by decide) dd_Tape_takes_20 ?_
    exact mj_zret (by decide) dd_Tape_takes_21 rfl rfl
  · refine mj_iconst (pc := 8) (v := (0 : Int32)) (by decide) dd_Tape_takes_8 ?_
    exact mj_zret (by decide) dd_Tape_takes_9 rfl rfl
def F_LawReader_readTruth_b8 (N : Nat) (K : Int32 → Int32 → mj_M → Option (mj_M)) : Nat → Int32 → Int32 → mj_M → Option (mj_M)
  | 0, _, _, _ => none
  | n + 1, x1, x3, M =>
    if (240 : Int32) ≤ x3 then
     (some M)
     else
     ((F_Tape_takes N (38 : Int32) M).bind (fun q3 =>
     if q3.1 = (0) then
     (some q3.2)
     else
     ((K x1 (0 : Int32) q3.2).bind (fun q5 =>
     (F_LawReader_write (38 : Int32) (0 : Int32) q5).bind (fun q6 =>
     F_LawReader_readTruth_b8 N K n x1 (x3 + (1 : Int32)) q6)))))
set_option maxRecDepth 20000 in
theorem T_LawReader_readTruth_b8 {g : mj_G} (N : Nat) (K : Int32 → Int32 → mj_M → Option (mj_M)) (dk : Nat) (hdk : 53 ≤ dk) (hK : ∀ e, dk ≤ e → ∀ (a0 : Int32) (a1 : Int32) (M : mj_M), mj_Mt g (mj_qV g) e y_LawReader_readUnit c_LawReader_readUnit 5 none [.ref 6, .int a0, .int a1] M (K a0 a1 M)) (e : Nat) (he : dk + 0 ≤ e) : ∀ (n : Nat) (x1 : Int32) (x3 : Int32) (M : mj_M), mj_X g (mj_qV g) "WinterTellers$LawReader" c_LawReader_readTruth 4 none e 8 [(0, .ref 6), (1, .int x1), (3, .int x3)] [] M (F_LawReader_readTruth_b8 N K n x1 x3 M) := by
  intro n
  induction n with
  | zero => intro x1 x3 M; exact mj_none
  | succ n ih =>
    intro x1 x3 M
    rw [F_LawReader_readTruth_b8]
    refine mj_iload_n (pc := 8) (i := 3) rfl dd_LawReader_readTruth_8 ?_
    refine mj_sipush (pc := 9) (v := (240 : Int32)) (by decide) dd_LawReader_readTruth_9 ?_
    refine mj_icmp_ge (pc := 12) (tgt := 46) dd_LawReader_readTruth_12 rfl (fun h2 => ?_) (fun h2 => ?_)
    · exact mj_vret dd_LawReader_readTruth_46 rfl rfl
    · refine mj_aload_n (pc := 15) (i := 0) rfl dd_LawReader_readTruth_15 ?_
      refine mj_getR (pc := 16) (b := 6) (k := 2) qf_LawReader_15 sh_6 cl_4 rfl (by decide) (r := 2) rfl dd_LawReader_readTruth_16 ?_
      refine mj_bipush (pc := 19) (v := (38 : Int32)) (by decide) dd_LawReader_readTruth_19 ?_
      refine mj_callVI (pc := 21) (idx := 29) (b := 2) (As := [.int (38 : Int32)]) (st := []) sh_2 cl_10 ev_Tape_takes ql_LawReader_29 rfl (Nat.le_of_ble_eq_true rfl) (T_Tape_takes (g := g) N e (by omega) (38 : Int32) M) dd_LawReader_readTruth_21 (fun q3 hq3 => ?_)
      refine mj_if_eq (pc := 24) (tgt := 46) dd_LawReader_readTruth_24 rfl (fun h4 => ?_) (fun h4 => ?_)
      · exact mj_vret dd_LawReader_readTruth_46 rfl rfl
      · refine mj_aload_n (pc := 27) (i := 0) rfl dd_LawReader_readTruth_27 ?_
        refine mj_iload_n (pc := 28) (i := 1) rfl dd_LawReader_readTruth_28 ?_
        refine mj_iconst (pc := 29) (v := (0 : Int32)) (by decide) dd_LawReader_readTruth_29 ?_
        refine mj_callVV (pc := 30) (idx := 64) (b := 6) (As := [.int x1, .int (0 : Int32)]) (st := []) sh_6 cl_4 ev_LawReader_readUnit ql_LawReader_64 rfl (Nat.le_of_ble_eq_true rfl) (hK e (by omega) x1 (0 : Int32) q3.2) dd_LawReader_readTruth_30 (fun q5 hq5 => ?_)
        refine mj_aload_n (pc := 33) (i := 0) rfl dd_LawReader_readTruth_33 ?_
        refine mj_bipush (pc := 34) (v := (38 : Int32)) (by decide) dd_LawReader_readTruth_34 ?_
        refine mj_iconst (pc := 36) (v := (0 : Int32)) (by decide) dd_LawReader_readTruth_36 ?_
        refine mj_callVV (pc := 37) (idx := 57) (b := 6) (As := [.int (38 : Int32), .int (0 : Int32)]) (st := []) sh_6 cl_4 ev_LawReader_write ql_LawReader_57 rfl (Nat.le_of_ble_eq_true rfl) (T_LawReader_write (g := g) e (by omega) (38 : Int32) (0 : Int32) q5) dd_LawReader_readTruth_37 (fun q6 hq6 => ?_)
        refine mj_iinc (pc := 40) (i := 3) (z := (1 : Int32)) rfl (by decide) (by decide) dd_LawReader_readTruth_40 ?_
        refine mj_L (L' := [(3, .int (x3 + (1 : Int32))), (0, .ref 6), (1, .int x1)]) [0, 1, 2] rfl ?_
        refine mj_goto (pc := 43) (tgt := 8) dd_LawReader_readTruth_43 rfl ?_
        refine mj_L (L' := [(0, .ref 6), (1, .int x1), (3, .int (x3 + (1 : Int32)))]) [1, 2, 0] rfl ?_
        exact ih x1 (x3 + (1 : Int32)) q6
def F_LawReader_readTruth (N : Nat) (K : Int32 → Int32 → mj_M → Option (mj_M)) (x1 : Int32) (x2 : Int32) (M : mj_M) : Option (mj_M) :=
    (K x1 x2 M).bind (fun q1 =>
     F_LawReader_readTruth_b8 N K N x1 (0 : Int32) q1)
set_option maxRecDepth 20000 in
theorem T_LawReader_readTruth {g : mj_G} (N : Nat) (K : Int32 → Int32 → mj_M → Option (mj_M)) (dk : Nat) (hdk : 53 ≤ dk) (hK : ∀ e, dk ≤ e → ∀ (a0 : Int32) (a1 : Int32) (M : mj_M), mj_Mt g (mj_qV g) e y_LawReader_readUnit c_LawReader_readUnit 5 none [.ref 6, .int a0, .int a1] M (K a0 a1 M)) : ∀ d, dk + 1 ≤ d → ∀ (x1 : Int32) (x2 : Int32) (M : mj_M), mj_Mt g (mj_qV g) d y_LawReader_readTruth c_LawReader_readTruth 4 none [.ref 6, .int x1, .int x2] M (F_LawReader_readTruth N K x1 x2 M) := by
  intro d hd x1 x2 M
  obtain ⟨e, rfl⟩ : ∃ e, d = e + 1 := ⟨d - 1, by omega⟩
  have he : dk + 0 ≤ e := by omega
  refine mj_met (by decide +kernel) (Nat.le_of_ble_eq_true rfl) ?_
  unfold F_LawReader_readTruth
  refine mj_L (L' := [(0, .ref 6), (1, .int x1), (2, .int x2)]) [0, 1, 2] rfl ?_
  refine mj_aload_n (pc := 0) (i := 0) rfl dd_LawReader_readTruth_0 ?_
  refine mj_iload_n (pc := 1) (i := 1) rfl dd_LawReader_readTruth_1 ?_
  refine mj_iload_n (pc := 2) (i := 2) rfl dd_LawReader_readTruth_2 ?_
  refine mj_callVV (pc := 3) (idx := 64) (b := 6) (As := [.int x1, .int x2]) (st := []) sh_6 cl_4 ev_LawReader_readUnit ql_LawReader_64 rfl (Nat.le_of_ble_eq_true rfl) (hK e (by omega) x1 x2 M) dd_LawReader_readTruth_3 (fun q1 hq1 => ?_)
  refine mj_iconst (pc := 6) (v := (0 : Int32)) (by decide) dd_LawReader_readTruth_6 ?_
  refine mj_istore_n (pc := 7) (by decide) dd_LawReader_readTruth_7 ?_
  refine mj_L (L' := [(3, .int (0 : Int32)), (0, .ref 6), (1, .int x1)]) [0, 1, 2] rfl ?_
  refine mj_L (L' := [(0, .ref 6), (1, .int x1), (3, .int (0 : Int32))]) [1, 2, 0] rfl ?_
  exact T_LawReader_readTruth_b8 (g := g) N K dk hdk hK e he N x1 (0 : Int32) q1
def F_LawReader_readCondition_b8 (N : Nat) (K : Int32 → Int32 → mj_M → Option (mj_M)) : Nat → Int32 → Int32 → mj_M → Option (mj_M)
  | 0, _, _, _ => none
  | n + 1, x1, x3, M =>
    if (240 : Int32) ≤ x3 then
     (some M)
     else
     ((F_Tape_takes N (124 : Int32) M).bind (fun q3 =>
     if q3.1 = (0) then
     (some q3.2)
     else
     ((F_LawReader_readTruth N K x1 (0 : Int32) q3.2).bind (fun q5 =>
     (F_LawReader_write (124 : Int32) (0 : Int32) q5).bind (fun q6 =>
     F_LawReader_readCondition_b8 N K n x1 (x3 + (1 : Int32)) q6)))))
set_option maxRecDepth 20000 in
theorem T_LawReader_readCondition_b8 {g : mj_G} (N : Nat) (K : Int32 → Int32 → mj_M → Option (mj_M)) (dk : Nat) (hdk : 53 ≤ dk) (hK : ∀ e, dk ≤ e → ∀ (a0 : Int32) (a1 : Int32) (M : mj_M), mj_Mt g (mj_qV g) e y_LawReader_readUnit c_LawReader_readUnit 5 none [.ref 6, .int a0, .int a1] M (K a0 a1 M)) (e : Nat) (he : dk + 1 ≤ e) : ∀ (n : Nat) (x1 : Int32) (x3 : Int32) (M : mj_M), mj_X g (mj_qV g) "WinterTellers$LawReader" c_LawReader_readCondition 4 none e 8 [(0, .ref 6), (1, .int x1), (3, .int x3)] [] M (F_LawReader_readCondition_b8 N K n x1 x3 M) := by
  intro n
  induction n with
  | zero => intro x1 x3 M; exact mj_none
  | succ n ih =>
    intro x1 x3 M
    rw [F_LawReader_readCondition_b8]
    refine mj_iload_n (pc := 8) (i := 3) rfl dd_LawReader_readCondition_8 ?_
    refine mj_sipush (pc := 9) (v := (240 : Int32)) (by decide) dd_LawReader_readCondition_9 ?_
    refine mj_icmp_ge (pc := 12) (tgt := 46) dd_LawReader_readCondition_12 rfl (fun h2 => ?_) (fun h2 => ?_)
    · exact mj_vret dd_LawReader_readCondition_46 rfl rfl
    · refine mj_aload_n (pc := 15) (i := 0) rfl dd_LawReader_readCondition_15 ?_
      refine mj_getR (pc := 16) (b := 6) (k := 2) qf_LawReader_15 sh_6 cl_4 rfl (by decide) (r := 2) rfl dd_LawReader_readCondition_16 ?_
      refine mj_bipush (pc := 19) (v := (124 : Int32)) (by decide) dd_LawReader_readCondition_19 ?_
      refine mj_callVI (pc := 21) (idx := 29) (b := 2) (As := [.int (124 : Int32)]) (st := []) sh_2 cl_10 ev_Tape_takes ql_LawReader_29 rfl (Nat.le_of_ble_eq_true rfl) (T_Tape_takes (g := g) N e (by omega) (124 : Int32) M) dd_LawReader_readCondition_21 (fun q3 hq3 => ?_)
      refine mj_if_eq (pc := 24) (tgt := 46) dd_LawReader_readCondition_24 rfl (fun h4 => ?_) (fun h4 => ?_)
      · exact mj_vret dd_LawReader_readCondition_46 rfl rfl
      · refine mj_aload_n (pc := 27) (i := 0) rfl dd_LawReader_readCondition_27 ?_
        refine mj_iload_n (pc := 28) (i := 1) rfl dd_LawReader_readCondition_28 ?_
        refine mj_iconst (pc := 29) (v := (0 : Int32)) (by decide) dd_LawReader_readCondition_29 ?_
        refine mj_callVV (pc := 30) (idx := 61) (b := 6) (As := [.int x1, .int (0 : Int32)]) (st := []) sh_6 cl_4 ev_LawReader_readTruth ql_LawReader_61 rfl (Nat.le_of_ble_eq_true rfl) (T_LawReader_readTruth (g := g) N K dk hdk hK e (by omega) x1 (0 : Int32) q3.2) dd_LawReader_readCondition_30 (fun q5 hq5 => ?_)
        refine mj_aload_n (pc := 33) (i := 0) rfl dd_LawReader_readCondition_33 ?_
        refine mj_bipush (pc := 34) (v := (124 : Int32)) (by decide) dd_LawReader_readCondition_34 ?_
        refine mj_iconst (pc := 36) (v := (0 : Int32)) (by decide) dd_LawReader_readCondition_36 ?_
        refine mj_callVV (pc := 37) (idx := 57) (b := 6) (As := [.int (124 : Int32), .int (0 : Int32)]) (st := []) sh_6 cl_4 ev_LawReader_write ql_LawReader_57 rfl (Nat.le_of_ble_eq_true rfl) (T_LawReader_write (g := g) e (by omega) (124 : Int32) (0 : Int32) q5) dd_LawReader_readCondition_37 (fun q6 hq6 => ?_)
        refine mj_iinc (pc := 40) (i := 3) (z := (1 : Int32)) rfl (by decide) (by decide) dd_LawReader_readCondition_40 ?_
        refine mj_L (L' := [(3, .int (x3 + (1 : Int32))), (0, .ref 6), (1, .int x1)]) [0, 1, 2] rfl ?_
        refine mj_goto (pc := 43) (tgt := 8) dd_LawReader_readCondition_43 rfl ?_
        refine mj_L (L' := [(0, .ref 6), (1, .int x1), (3, .int (x3 + (1 : Int32)))]) [1, 2, 0] rfl ?_
        exact ih x1 (x3 + (1 : Int32)) q6
def F_LawReader_readCondition (N : Nat) (K : Int32 → Int32 → mj_M → Option (mj_M)) (x1 : Int32) (x2 : Int32) (M : mj_M) : Option (mj_M) :=
    (F_LawReader_readTruth N K x1 x2 M).bind (fun q1 =>
     F_LawReader_readCondition_b8 N K N x1 (0 : Int32) q1)
set_option maxRecDepth 20000 in
theorem T_LawReader_readCondition {g : mj_G} (N : Nat) (K : Int32 → Int32 → mj_M → Option (mj_M)) (dk : Nat) (hdk : 53 ≤ dk) (hK : ∀ e, dk ≤ e → ∀ (a0 : Int32) (a1 : Int32) (M : mj_M), mj_Mt g (mj_qV g) e y_LawReader_readUnit c_LawReader_readUnit 5 none [.ref 6, .int a0, .int a1] M (K a0 a1 M)) : ∀ d, dk + 2 ≤ d → ∀ (x1 : Int32) (x2 : Int32) (M : mj_M), mj_Mt g (mj_qV g) d y_LawReader_readCondition c_LawReader_readCondition 4 none [.ref 6, .int x1, .int x2] M (F_LawReader_readCondition N K x1 x2 M) := by
  intro d hd x1 x2 M
  obtain ⟨e, rfl⟩ : ∃ e, d = e + 1 := ⟨d - 1, by omega⟩
  have he : dk + 1 ≤ e := by omega
  refine mj_met (by decide +kernel) (Nat.le_of_ble_eq_true rfl) ?_
  unfold F_LawReader_readCondition
  refine mj_L (L' := [(0, .ref 6), (1, .int x1), (2, .int x2)]) [0, 1, 2] rfl ?_
  refine mj_aload_n (pc := 0) (i := 0) rfl dd_LawReader_readCondition_0 ?_
  refine mj_iload_n (pc := 1) (i := 1) rfl dd_LawReader_readCondition_1 ?_
  refine mj_iload_n (pc := 2) (i := 2) rfl dd_LawReader_readCondition_2 ?_
  refine mj_callVV (pc := 3) (idx := 61) (b := 6) (As := [.int x1, .int x2]) (st := []) sh_6 cl_4 ev_LawReader_readTruth ql_LawReader_61 rfl (Nat.le_of_ble_eq_true rfl) (T_LawReader_readTruth (g := g) N K dk hdk hK e (by omega) x1 x2 M) dd_LawReader_readCondition_3 (fun q1 hq1 => ?_)
  refine mj_iconst (pc := 6) (v := (0 : Int32)) (by decide) dd_LawReader_readCondition_6 ?_
  refine mj_istore_n (pc := 7) (by decide) dd_LawReader_readCondition_7 ?_
  refine mj_L (L' := [(3, .int (0 : Int32)), (0, .ref 6), (1, .int x1)]) [0, 1, 2] rfl ?_
  refine mj_L (L' := [(0, .ref 6), (1, .int x1), (3, .int (0 : Int32))]) [1, 2, 0] rfl ?_
  exact T_LawReader_readCondition_b8 (g := g) N K dk hdk hK e he N x1 (0 : Int32) q1
def F_LawReader_readUnit_body_b138 (N : Nat) (K : Int32 → Int32 → mj_M → Option (mj_M)) (x1 : Int32) (x4 : Int32) (M : mj_M) : Option (mj_M) :=
    (F_LawReader_readSum N 10 x1 M).bind (fun q20 =>
     (F_LawReader_write x4 (0 : Int32) q20).bind (fun q21 =>
     some q21))
set_option maxRecDepth 20000 in
theorem T_LawReader_readUnit_body_b138 {g : mj_G} (N : Nat) (K : Int32 → Int32 → mj_M → Option (mj_M)) (dk : Nat) (hdk : 53 ≤ dk) (hK : ∀ e, dk ≤ e → ∀ (a0 : Int32) (a1 : Int32) (M : mj_M), mj_Mt g (mj_qV g) e y_LawReader_readUnit c_LawReader_readUnit 5 none [.ref 6, .int a0, .int a1] M (K a0 a1 M)) (e : Nat) (he : dk + 2 ≤ e) (x1 : Int32) (x4 : Int32) (M : mj_M) : mj_X g (mj_qV g) "WinterTellers$LawReader" c_LawReader_readUnit 5 none e 138 [(0, .ref 6), (1, .int x1), (4, .int x4)] [] M (F_LawReader_readUnit_body_b138 N K x1 x4 M) := by
  unfold F_LawReader_readUnit_body_b138
  refine mj_aload_n (pc := 138) (i := 0) rfl dd_LawReader_readUnit_138 ?_
  refine mj_iload_n (pc := 139) (i := 1) rfl dd_LawReader_readUnit_139 ?_
  refine mj_callVV (pc := 140) (idx := 47) (b := 6) (As := [.int x1]) (st := []) sh_6 cl_4 ev_LawReader_readSum ql_LawReader_47 rfl (Nat.le_of_ble_eq_true rfl) (T_LawReader_readSum (g := g) N 10 e (by omega) x1 M) dd_LawReader_readUnit_140 (fun q20 hq20 => ?_)
  refine mj_aload_n (pc := 143) (i := 0) rfl dd_LawReader_readUnit_143 ?_
  refine mj_iload (pc := 144) (i := 4) rfl dd_LawReader_readUnit_144 ?_
  refine mj_iconst (pc := 146) (v := (0 : Int32)) (by decide) dd_LawReader_readUnit_146 ?_
  refine mj_callVV (pc := 147) (idx := 57) (b := 6) (As := [.int x4, .int (0 : Int32)]) (st := []) sh_6 cl_4 ev_LawReader_write ql_LawReader_57 rfl (Nat.le_of_ble_eq_true rfl) (T_LawReader_write (g := g) e (by omega) x4 (0 : Int32) q20) dd_LawReader_readUnit_147 (fun q21 hq21 => ?_)
  exact mj_vret dd_LawReader_readUnit_150 rfl rfl
def F_LawReader_readUnit_body_b91 (N : Nat) (K : Int32 → Int32 → mj_M → Option (mj_M)) (x1 : Int32) (M : mj_M) : Option (mj_M) :=
    (F_Tape_peek N M).bind (fun q15 =>
     (F_LawReader_isComparison q15.1 q15.2).bind (fun q16 =>
     if q16.1 = (0) then
     ((F_Tape_fail (q16.2 2 2) q16.2).bind (fun q18 =>
     F_LawReader_readUnit_body_b138 N K x1 q15.1 q18))
     else
     (mj_lt (mj_u q16.2 2 2 ((q16.2 2 2) + (1 : Int32))) (fun M19 =>
     F_LawReader_readUnit_body_b138 N K x1 q15.1 M19))))
set_option maxRecDepth 20000 in
theorem T_LawReader_readUnit_body_b91 {g : mj_G} (N : Nat) (K : Int32 → Int32 → mj_M → Option (mj_M)) (dk : Nat) (hdk : 53 ≤ dk) (hK : ∀ e, dk ≤ e → ∀ (a0 : Int32) (a1 : Int32) (M : mj_M), mj_Mt g (mj_qV g) e y_LawReader_readUnit c_LawReader_readUnit 5 none [.ref 6, .int a0, .int a1] M (K a0 a1 M)) (e : Nat) (he : dk + 2 ≤ e) (x1 : Int32) (M : mj_M) : mj_X g (mj_qV g) "WinterTellers$LawReader" c_LawReader_readUnit 5 none e 91 [(0, .ref 6), (1, .int x1)] [] M (F_LawReader_readUnit_body_b91 N K x1 M) := by
  unfold F_LawReader_readUnit_body_b91
  refine mj_aload_n (pc := 91) (i := 0) rfl dd_LawReader_readUnit_91 ?_
  refine mj_getR (pc := 92) (b := 6) (k := 2) qf_LawReader_15 sh_6 cl_4 rfl (by decide) (r := 2) rfl dd_LawReader_readUnit_92 ?_
  refine mj_callVI (pc := 95) (idx := 43) (b := 2) (As := []) (st := []) sh_2 cl_10 ev_Tape_peek ql_LawReader_43 rfl (Nat.le_of_ble_eq_true rfl) (T_Tape_peek (g := g) N e (by omega) M) dd_LawReader_readUnit_95 (fun q15 hq15 => ?_)
  refine mj_istore (pc := 98) (by decide) dd_LawReader_readUnit_98 ?_
  refine mj_L (L' := [(4, .int q15.1), (0, .ref 6), (1, .int x1)]) [0, 1, 2] rfl ?_
  refine mj_iload (pc := 100) (i := 4) rfl dd_LawReader_readUnit_100 ?_
  refine mj_callSI (pc := 102) (idx := 50) (As := [.int q15.1]) (st := []) es_LawReader_isComparison ql_LawReader_50 rfl (Nat.le_of_ble_eq_true rfl) (T_LawReader_isComparison (g := g) e (by omega) q15.1 q15.2) dd_LawReader_readUnit_102 (fun q16 hq16 => ?_)
  refine mj_if_eq (pc := 105) (tgt := 124) dd_LawReader_readUnit_105 rfl (fun h17 => ?_) (fun h17 => ?_)
  · refine mj_aload_n (pc := 124) (i := 0) rfl dd_LawReader_readUnit_124 ?_
    refine mj_getR (pc := 125) (b := 6) (k := 2) qf_LawReader_15 sh_6 cl_4 rfl (by decide) (r := 2) rfl dd_LawReader_readUnit_125 ?_
    refine mj_aload_n (pc := 128) (i := 0) rfl dd_LawReader_readUnit_128 ?_
    refine mj_getR (pc := 129) (b := 6) (k := 2) qf_LawReader_15 sh_6 cl_4 rfl (by decide) (r := 2) rfl dd_LawReader_readUnit_129 ?_
    refine mj_getI (pc := 132) (b := 2) (k := 2) qf_LawReader_70 sh_2 cl_10 rfl (by decide) rfl dd_LawReader_readUnit_132 ?_
    refine mj_callVV (pc := 135) (idx := 73) (b := 2) (As := [.int (q16.2 2 2)]) (st := []) sh_2 cl_10 ev_Tape_fail ql_LawReader_73 rfl (Nat.le_of_ble_eq_true rfl) (T_Tape_fail (g := g) e (by omega) (q16.2 2 2) q16.2) dd_LawReader_readUnit_135 (fun q18 hq18 => ?_)
    refine mj_L (L' := [(0, .ref 6), (1, .int x1), (4, .int q15.1)]) [1, 2, 0] rfl ?_
    exact T_LawReader_readUnit_body_b138 (g := g) N K dk hdk hK e he x1 q15.1 q18
  · refine mj_aload_n (pc := 108) (i := 0) rfl dd_LawReader_readUnit_108 ?_
    refine mj_getR (pc := 109) (b := 6) (k := 2) qf_LawReader_15 sh_6 cl_4 rfl (by decide) (r := 2) rfl dd_LawReader_readUnit_109 ?_
    refine mj_dup (pc := 112) rfl dd_LawReader_readUnit_112 ?_
    refine mj_getI (pc := 113) (b := 2) (k := 2) qf_LawReader_70 sh_2 cl_10 rfl (by decide) rfl dd_LawReader_readUnit_113 ?_
    refine mj_iconst (pc := 116) (v := (1 : Int32)) (by decide) dd_LawReader_readUnit_116 ?_
    refine mj_iadd (pc := 117) dd_LawReader_readUnit_117 ?_
    refine mj_putI (pc := 118) (b := 2) (k := 2) qf_LawReader_70 sh_2 cl_10 rfl (by decide) (by decide) rfl rfl rfl dd_LawReader_readUnit_118 (fun M19 _ => ?_)
    refine mj_goto (pc := 121) (tgt := 138) dd_LawReader_readUnit_121 rfl ?_
    refine mj_L (L' := [(0, .ref 6), (1, .int x1), (4, .int q15.1)]) [1, 2, 0] rfl ?_
    exact T_LawReader_readUnit_body_b138 (g := g) N K dk hdk hK e he x1 q15.1 M19
def F_LawReader_readUnit_body_b15 (N : Nat) (K : Int32 → Int32 → mj_M → Option (mj_M)) (x1 : Int32) (x2 : Int32) (s0 : Int32) (M : mj_M) : Option (mj_M) :=
    if s0 = (33 : Int32) then
     ((F_LawReader_goesDeeper x1 M).bind (fun q11 =>
     if q11.1 = (0) then
     (some q11.2)
     else
     ((K (x1 + (1 : Int32)) (0 : Int32) q11.2).bind (fun q13 =>
     (F_LawReader_write (33 : Int32) (0 : Int32) q13).bind (fun q14 =>
     some q14)))))
     else
     (if s0 = (40 : Int32) then
     ((F_LawReader_goesDeeper x1 M).bind (fun q7 =>
     if q7.1 = (0) then
     (some q7.2)
     else
     ((F_LawReader_readCondition N K (x1 + (1 : Int32)) (0 : Int32) q7.2).bind (fun q9 =>
     (F_Tape_demand N (41 : Int32) q9).bind (fun q10 =>
     some q10)))))
     else
     (if x2 = (0) then
     ((F_LawReader_readSum N 10 x1 M).bind (fun q6 =>
     F_LawReader_readUnit_body_b91 N K x1 q6))
     else
     (F_LawReader_readUnit_body_b91 N K x1 M)))
set_option maxRecDepth 20000 in
theorem T_LawReader_readUnit_body_b15 {g : mj_G} (N : Nat) (K : Int32 → Int32 → mj_M → Option (mj_M)) (dk : Nat) (hdk : 53 ≤ dk) (hK : ∀ e, dk ≤ e → ∀ (a0 : Int32) (a1 : Int32) (M : mj_M), mj_Mt g (mj_qV g) e y_LawReader_readUnit c_LawReader_readUnit 5 none [.ref 6, .int a0, .int a1] M (K a0 a1 M)) (e : Nat) (he : dk + 2 ≤ e) (x1 : Int32) (x2 : Int32) (s0 : Int32) (M : mj_M) : mj_X g (mj_qV g) "WinterTellers$LawReader" c_LawReader_readUnit 5 none e 15 [(0, .ref 6), (1, .int x1), (2, .int x2)] [.int s0] M (F_LawReader_readUnit_body_b15 N K x1 x2 s0 M) := by
  unfold F_LawReader_readUnit_body_b15
  refine mj_istore_n (pc := 15) (by decide) dd_LawReader_readUnit_15 ?_
  refine mj_L (L' := [(3, .int s0), (0, .ref 6), (1, .int x1), (2, .int x2)]) [0, 1, 2, 3] rfl ?_
  refine mj_iload_n (pc := 16) (i := 3) rfl dd_LawReader_readUnit_16 ?_
  refine mj_bipush (pc := 17) (v := (33 : Int32)) (by decide) dd_LawReader_readUnit_17 ?_
  refine mj_icmp_ne (pc := 19) (tgt := 48) dd_LawReader_readUnit_19 rfl (fun h3 => ?_) (fun h3 => ?_)
  · refine mj_aload_n (pc := 22) (i := 0) rfl dd_LawReader_readUnit_22 ?_
    refine mj_iload_n (pc := 23) (i := 1) rfl dd_LawReader_readUnit_23 ?_
    refine mj_callVI (pc := 24) (idx := 67) (b := 6) (As := [.int x1]) (st := []) sh_6 cl_4 ev_LawReader_goesDeeper ql_LawReader_67 rfl (Nat.le_of_ble_eq_true rfl) (T_LawReader_goesDeeper (g := g) e (by omega) x1 M) dd_LawReader_readUnit_24 (fun q11 hq11 => ?_)
    refine mj_if_eq (pc := 27) (tgt := 150) dd_LawReader_readUnit_27 rfl (fun h12 => ?_) (fun h12 => ?_)
    · exact mj_vret dd_LawReader_readUnit_150 rfl rfl
    · refine mj_aload_n (pc := 30) (i := 0) rfl dd_LawReader_readUnit_30 ?_
      refine mj_iload_n (pc := 31) (i := 1) rfl dd_LawReader_readUnit_31 ?_
      refine mj_iconst (pc := 32) (v := (1 : Int32)) (by decide) dd_LawReader_readUnit_32 ?_
      refine mj_iadd (pc := 33) dd_LawReader_readUnit_33 ?_
      refine mj_iconst (pc := 34) (v := (0 : Int32)) (by decide) dd_LawReader_readUnit_34 ?_
      refine mj_callVV (pc := 35) (idx := 64) (b := 6) (As := [.int (x1 + (1 : Int32)), .int (0 : Int32)]) (st := []) sh_6 cl_4 ev_LawReader_readUnit ql_LawReader_64 rfl (Nat.le_of_ble_eq_true rfl) (hK e (by omega) (x1 + (1 : Int32)) (0 : Int32) q11.2) dd_LawReader_readUnit_35 (fun q13 hq13 => ?_)
      refine mj_aload_n (pc := 38) (i := 0) rfl dd_LawReader_readUnit_38 ?_
      refine mj_bipush (pc := 39) (v := (33 : Int32)) (by decide) dd_LawReader_readUnit_39 ?_
      refine mj_iconst (pc := 41) (v := (0 : Int32)) (by decide) dd_LawReader_readUnit_41 ?_
      refine mj_callVV (pc := 42) (idx := 57) (b := 6) (As := [.int (33 : Int32), .int (0 : Int32)]) (st := []) sh_6 cl_4 ev_LawReader_write ql_LawReader_57 rfl (Nat.le_of_ble_eq_true rfl) (T_LawReader_write (g := g) e (by omega) (33 : Int32) (0 : Int32) q13) dd_LawReader_readUnit_42 (fun q14 hq14 => ?_)
      refine mj_goto (pc := 45) (tgt := 150) dd_LawReader_readUnit_45 rfl ?_
      exact mj_vret dd_LawReader_readUnit_150 rfl rfl
  · refine mj_iload_n (pc := 48) (i := 3) rfl dd_LawReader_readUnit_48 ?_
    refine mj_bipush (pc := 49) (v := (40 : Int32)) (by decide) dd_LawReader_readUnit_49 ?_
    refine mj_icmp_ne (pc := 51) (tgt := 82) dd_LawReader_readUnit_51 rfl (fun h4 => ?_) (fun h4 => ?_)
    · refine mj_aload_n (pc := 54) (i := 0) rfl dd_LawReader_readUnit_54 ?_
      refine mj_iload_n (pc := 55) (i := 1) rfl dd_LawReader_readUnit_55 ?_
      refine mj_callVI (pc := 56) (idx := 67) (b := 6) (As := [.int x1]) (st := []) sh_6 cl_4 ev_LawReader_goesDeeper ql_LawReader_67 rfl (Nat.le_of_ble_eq_true rfl) (T_LawReader_goesDeeper (g := g) e (by omega) x1 M) dd_LawReader_readUnit_56 (fun q7 hq7 => ?_)
      refine mj_if_eq (pc := 59) (tgt := 150) dd_LawReader_readUnit_59 rfl (fun h8 => ?_) (fun h8 => ?_)
      · exact mj_vret dd_LawReader_readUnit_150 rfl rfl
      · refine mj_aload_n (pc := 62) (i := 0) rfl dd_LawReader_readUnit_62 ?_
        refine mj_iload_n (pc := 63) (i := 1) rfl dd_LawReader_readUnit_63 ?_
        refine mj_iconst (pc := 64) (v := (1 : Int32)) (by decide) dd_LawReader_readUnit_64 ?_
        refine mj_iadd (pc := 65) dd_LawReader_readUnit_65 ?_
        refine mj_iconst (pc := 66) (v := (0 : Int32)) (by decide) dd_LawReader_readUnit_66 ?_
        refine mj_callVV (pc := 67) (idx := 53) (b := 6) (As := [.int (x1 + (1 : Int32)), .int (0 : Int32)]) (st := []) sh_6 cl_4 ev_LawReader_readCondition ql_LawReader_53 rfl (Nat.le_of_ble_eq_true rfl) (T_LawReader_readCondition (g := g) N K dk hdk hK e (by omega) (x1 + (1 : Int32)) (0 : Int32) q7.2) dd_LawReader_readUnit_67 (fun q9 hq9 => ?_)
        refine mj_aload_n (pc := 70) (i := 0) rfl dd_LawReader_readUnit_70 ?_
        refine mj_getR (pc := 71) (b := 6) (k := 2) qf_LawReader_15 sh_6 cl_4 rfl (by decide) (r := 2) rfl dd_LawReader_readUnit_71 ?_
        refine mj_bipush (pc := 74) (v := (41 : Int32)) (by decide) dd_LawReader_readUnit_74 ?_
        refine mj_callVV (pc := 76) (idx := 39) (b := 2) (As := [.int (41 : Int32)]) (st := []) sh_2 cl_10 ev_Tape_demand ql_LawReader_39 rfl (Nat.le_of_ble_eq_true rfl) (T_Tape_demand (g := g) N e (by omega) (41 : Int32) q9) dd_LawReader_readUnit_76 (fun q10 hq10 => ?_)
        refine mj_goto (pc := 79) (tgt := 150) dd_LawReader_readUnit_79 rfl ?_
        exact mj_vret dd_LawReader_readUnit_150 rfl rfl
    · refine mj_iload_n (pc := 82) (i := 2) rfl dd_LawReader_readUnit_82 ?_
      refine mj_if_ne (pc := 83) (tgt := 91) dd_LawReader_readUnit_83 rfl (fun h5 => ?_) (fun h5 => ?_)
      · refine mj_aload_n (pc := 86) (i := 0) rfl dd_LawReader_readUnit_86 ?_
        refine mj_iload_n (pc := 87) (i := 1) rfl dd_LawReader_readUnit_87 ?_
        refine mj_callVV (pc := 88) (idx := 47) (b := 6) (As := [.int x1]) (st := []) sh_6 cl_4 ev_LawReader_readSum ql_LawReader_47 rfl (Nat.le_of_ble_eq_true rfl) (T_LawReader_readSum (g := g) N 10 e (by omega) x1 M) dd_LawReader_readUnit_88 (fun q6 hq6 => ?_)
        refine mj_L (L' := [(0, .ref 6), (1, .int x1)]) [1, 2] rfl ?_
        exact T_LawReader_readUnit_body_b91 (g := g) N K dk hdk hK e he x1 q6
      · refine mj_L (L' := [(0, .ref 6), (1, .int x1)]) [1, 2] rfl ?_
        exact T_LawReader_readUnit_body_b91 (g := g) N K dk hdk hK e he x1 M
def F_LawReader_readUnit_body (N : Nat) (K : Int32 → Int32 → mj_M → Option (mj_M)) (x1 : Int32) (x2 : Int32) (M : mj_M) : Option (mj_M) :=
    if x2 = (0) then
     ((F_Tape_peek N M).bind (fun q2 =>
     F_LawReader_readUnit_body_b15 N K x1 x2 q2.1 q2.2))
     else
     (F_LawReader_readUnit_body_b15 N K x1 x2 (0 : Int32) M)
set_option maxRecDepth 20000 in
theorem T_LawReader_readUnit_body {g : mj_G} (N : Nat) (K : Int32 → Int32 → mj_M → Option (mj_M)) (dk : Nat) (hdk : 53 ≤ dk) (hK : ∀ e, dk ≤ e → ∀ (a0 : Int32) (a1 : Int32) (M : mj_M), mj_Mt g (mj_qV g) e y_LawReader_readUnit c_LawReader_readUnit 5 none [.ref 6, .int a0, .int a1] M (K a0 a1 M)) : ∀ d, dk + 3 ≤ d → ∀ (x1 : Int32) (x2 : Int32) (M : mj_M), mj_Mt g (mj_qV g) d y_LawReader_readUnit c_LawReader_readUnit 5 none [.ref 6, .int x1, .int x2] M (F_LawReader_readUnit_body N K x1 x2 M) := by
  intro d hd x1 x2 M
  obtain ⟨e, rfl⟩ : ∃ e, d = e + 1 := ⟨d - 1, by omega⟩
  have he : dk + 2 ≤ e := by omega
  refine mj_met (by decide +kernel) (Nat.le_of_ble_eq_true rfl) ?_
  unfold F_LawReader_readUnit_body
  refine mj_L (L' := [(0, .ref 6), (1, .int x1), (2, .int x2)]) [0, 1, 2] rfl ?_
  refine mj_iload_n (pc := 0) (i := 2) rfl dd_LawReader_readUnit_0 ?_
  refine mj_if_eq (pc := 1) (tgt := 8) dd_LawReader_readUnit_1 rfl (fun h1 => ?_) (fun h1 => ?_)
  · refine mj_aload_n (pc := 8) (i := 0) rfl dd_LawReader_readUnit_8 ?_
    refine mj_getR (pc := 9) (b := 6) (k := 2) qf_LawReader_15 sh_6 cl_4 rfl (by decide) (r := 2) rfl dd_LawReader_readUnit_9 ?_
    refine mj_callVI (pc := 12) (idx := 43) (b := 2) (As := []) (st := []) sh_2 cl_10 ev_Tape_peek ql_LawReader_43 rfl (Nat.le_of_ble_eq_true rfl) (T_Tape_peek (g := g) N e (by omega) M) dd_LawReader_readUnit_12 (fun q2 hq2 => ?_)
    refine mj_L (L' := [(0, .ref 6), (1, .int x1), (2, .int x2)]) [0, 1, 2] rfl ?_
    exact T_LawReader_readUnit_body_b15 (g := g) N K dk hdk hK e he x1 x2 q2.1 q2.2
  · refine mj_iconst (pc := 4) (v := (0 : Int32)) (by decide) dd_LawReader_readUnit_4 ?_
    refine mj_goto (pc := 5) (tgt := 15) dd_LawReader_readUnit_5 rfl ?_
    refine mj_L (L' := [(0, .ref 6), (1, .int x1), (2, .int x2)]) [0, 1, 2] rfl ?_
    exact T_LawReader_readUnit_body_b15 (g := g) N K dk hdk hK e he x1 x2 (0 : Int32) M
def F_LawReader_readUnit (N : Nat) : Nat → Int32 → Int32 → mj_M → Option (mj_M)
  | 0, _, _, _ => none
  | n + 1, x1, x2, M => F_LawReader_readUnit_body N (F_LawReader_readUnit N n) x1 x2 M
theorem T_LawReader_readUnit {g : mj_G} (N : Nat) : ∀ (n d : Nat), 53 + 4 * n ≤ d → ∀ (x1 : Int32) (x2 : Int32) (M : mj_M), mj_Mt g (mj_qV g) d y_LawReader_readUnit c_LawReader_readUnit 5 none [.ref 6, .int x1, .int x2] M (F_LawReader_readUnit N n x1 x2 M) := by
  intro n
  induction n with
  | zero => intro d _ x1 x2 M q hq; cases hq
  | succ n ih =>
    intro d hd x1 x2 M
    exact T_LawReader_readUnit_body (g := g) N (F_LawReader_readUnit N n) (53 + 4 * n) (by omega) (fun e he => ih e he) d (by omega) x1 x2 M
