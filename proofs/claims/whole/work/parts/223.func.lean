/-! ===== functions and their proofs ===== -/
def F_W_back (M : mj_M) : Option (Int32 × mj_M) :=
    if (M 24 1) = (0) then
     (some ((-1 : Int32), M))
     else
     ((F_Past_takeImage_c20 M).bind (fun q2 =>
     some (q2 20 3, q2)))
set_option maxRecDepth 20000 in
theorem T_W_back {g : mj_G} : ∀ d, 3 ≤ d → ∀ (M : mj_M), mj_Mt g (mj_qI g) d y_W_back c_W_back 1 (some .int) [.ref 0] M (F_W_back M) := by
  intro d hd M
  obtain ⟨e, rfl⟩ : ∃ e, d = e + 1 := ⟨d - 1, by omega⟩
  have he : 2 ≤ e := by omega
  refine mj_met (by decide +kernel) (Nat.le_of_ble_eq_true rfl) ?_
  unfold F_W_back
  refine mj_L (L' := [(0, .ref 0)]) [0] rfl ?_
  refine mj_aload_n (pc := 0) (i := 0) rfl dd_W_back_0 ?_
  refine mj_getR (pc := 1) (b := 0) (k := 6) qf_W_56 sh_0 cl_11 rfl (by decide) (r := 24) rfl dd_W_back_1 ?_
  refine mj_getI (pc := 4) (b := 24) (k := 1) qf_W_368 sh_24 cl_6 rfl (by decide) rfl dd_W_back_4 ?_
  refine mj_if_ne (pc := 7) (tgt := 12) dd_W_back_7 rfl (fun h1 => ?_) (fun h1 => ?_)
  · refine mj_iconst (pc := 10) (v := (-1 : Int32)) (by decide) dd_W_back_10 ?_
    exact mj_iret dd_W_back_11 rfl rfl
  · refine mj_aload_n (pc := 12) (i := 0) rfl dd_W_back_12 ?_
    refine mj_getR (pc := 13) (b := 0) (k := 6) qf_W_56 sh_0 cl_11 rfl (by decide) (r := 24) rfl dd_W_back_13 ?_
    refine mj_aload_n (pc := 16) (i := 0) rfl dd_W_back_16 ?_
    refine mj_getR (pc := 17) (b := 0) (k := 5) qf_W_49 sh_0 cl_11 rfl (by decide) (r := 20) rfl dd_W_back_17 ?_
    refine mj_callVV (pc := 20) (idx := 372) (b := 24) (As := [.ref 20]) (st := []) sh_24 cl_6 ev_Past_takeImage ql_W_372 rfl (Nat.le_of_ble_eq_true rfl) (T_Past_takeImage_c20 (g := g) e (by omega) M) dd_W_back_20 (fun q2 hq2 => ?_)
    refine mj_aload_n (pc := 23) (i := 0) rfl dd_W_back_23 ?_
    refine mj_getR (pc := 24) (b := 0) (k := 5) qf_W_49 sh_0 cl_11 rfl (by decide) (r := 20) rfl dd_W_back_24 ?_
    refine mj_getI (pc := 27) (b := 20) (k := 3) qf_W_224 sh_20 cl_8 rfl (by decide) rfl dd_W_back_27 ?_
    exact mj_iret dd_W_back_30 rfl rfl
def F_M_back_b11 (N : Nat) : Nat → Int32 → mj_M → Option (Int32 × mj_M)
  | 0, _, _ => none
  | n + 1, x1, M =>
    if (229 : Int32) ≤ x1 then
     (mj_lt (mj_u M 48 32 (0 : Int32)) (fun M3 =>
     some (M3 65 45, M3)))
     else
     (mj_ck x1 229 (
     mj_ck x1 229 (mj_lt (mj_u M 65 x1.toNatClampNeg (M 72 x1.toNatClampNeg)) (fun M4 =>
     F_M_back_b11 N n (x1 + (1 : Int32)) M4))))
set_option maxRecDepth 20000 in
theorem T_M_back_b11 {g : mj_G} (N : Nat) (e : Nat) (he : 0 ≤ e) : ∀ (n : Nat) (x1 : Int32) (M : mj_M), mj_X g (mj_qI g) "WinterTellersModel" c_M_back 2 (some .int) e 11 [(0, .ref 48), (1, .int x1)] [] M (F_M_back_b11 N n x1 M) := by
  intro n
  induction n with
  | zero => intro x1 M; exact mj_none
  | succ n ih =>
    intro x1 M
    rw [F_M_back_b11]
    refine mj_iload_n (pc := 11) (i := 1) rfl dd_M_back_11 ?_
    refine mj_sipush (pc := 12) (v := (229 : Int32)) (by decide) dd_M_back_12 ?_
    refine mj_icmp_ge (pc := 15) (tgt := 36) dd_M_back_15 rfl (fun h2 => ?_) (fun h2 => ?_)
    · refine mj_aload_n (pc := 36) (i := 0) rfl dd_M_back_36 ?_
      refine mj_iconst (pc := 37) (v := (0 : Int32)) (by decide) dd_M_back_37 ?_
      refine mj_putI (pc := 38) (b := 48) (k := 32) qf_M_257 sh_48 cl_12 rfl (by decide) (by decide) rfl rfl rfl dd_M_back_38 (fun M3 _ => ?_)
      refine mj_aload_n (pc := 41) (i := 0) rfl dd_M_back_41 ?_
      refine mj_getR (pc := 42) (b := 48) (k := 27) qf_M_58 sh_48 cl_12 rfl (by decide) (r := 65) rfl dd_M_back_42 ?_
      refine mj_bipush (pc := 45) (v := (45 : Int32)) (by decide) dd_M_back_45 ?_
      refine mj_ialdK (pc := 47) (j := 45) sh_65 (by decide) rfl dd_M_back_47 ?_
      exact mj_iret dd_M_back_48 rfl rfl
    · refine mj_aload_n (pc := 18) (i := 0) rfl dd_M_back_18 ?_
      refine mj_getR (pc := 19) (b := 48) (k := 27) qf_M_58 sh_48 cl_12 rfl (by decide) (r := 65) rfl dd_M_back_19 ?_
      refine mj_iload_n (pc := 22) (i := 1) rfl dd_M_back_22 ?_
      refine mj_aload_n (pc := 23) (i := 0) rfl dd_M_back_23 ?_
      refine mj_getR (pc := 24) (b := 48) (k := 43) qf_M_87 sh_48 cl_12 rfl (by decide) (r := 72) rfl dd_M_back_24 ?_
      refine mj_iload_n (pc := 27) (i := 1) rfl dd_M_back_27 ?_
      refine mj_iald (pc := 28) sh_72 dd_M_back_28 ?_
      refine mj_iast (pc := 29) sh_65 dd_M_back_29 (fun M4 _ => ?_)
      refine mj_iinc (pc := 30) (i := 1) (z := (1 : Int32)) rfl (by decide) (by decide) dd_M_back_30 ?_
      refine mj_L (L' := [(1, .int (x1 + (1 : Int32))), (0, .ref 48)]) [0, 1] rfl ?_
      refine mj_goto (pc := 33) (tgt := 11) dd_M_back_33 rfl ?_
      refine mj_L (L' := [(0, .ref 48), (1, .int (x1 + (1 : Int32)))]) [1, 0] rfl ?_
      exact ih (x1 + (1 : Int32)) M4
def F_M_back (N : Nat) (M : mj_M) : Option (Int32 × mj_M) :=
    if (M 48 44) = (0) then
     (some ((-1 : Int32), M))
     else
     (F_M_back_b11 N N (0 : Int32) M)
set_option maxRecDepth 20000 in
theorem T_M_back {g : mj_G} (N : Nat) : ∀ d, 1 ≤ d → ∀ (M : mj_M), mj_Mt g (mj_qI g) d y_M_back c_M_back 2 (some .int) [.ref 48] M (F_M_back N M) := by
  intro d hd M
  obtain ⟨e, rfl⟩ : ∃ e, d = e + 1 := ⟨d - 1, by omega⟩
  have he : 0 ≤ e := by omega
  refine mj_met (by decide +kernel) (Nat.le_of_ble_eq_true rfl) ?_
  unfold F_M_back
  refine mj_L (L' := [(0, .ref 48)]) [0] rfl ?_
  refine mj_aload_n (pc := 0) (i := 0) rfl dd_M_back_0 ?_
  refine mj_getI (pc := 1) (b := 48) (k := 44) qf_M_260 sh_48 cl_12 rfl (by decide) rfl dd_M_back_1 ?_
  refine mj_if_ne (pc := 4) (tgt := 9) dd_M_back_4 rfl (fun h1 => ?_) (fun h1 => ?_)
  · refine mj_iconst (pc := 7) (v := (-1 : Int32)) (by decide) dd_M_back_7 ?_
    exact mj_iret dd_M_back_8 rfl rfl
  · refine mj_iconst (pc := 9) (v := (0 : Int32)) (by decide) dd_M_back_9 ?_
    refine mj_istore_n (pc := 10) (by decide) dd_M_back_10 ?_
    refine mj_L (L' := [(1, .int (0 : Int32)), (0, .ref 48)]) [0, 1] rfl ?_
    refine mj_L (L' := [(0, .ref 48), (1, .int (0 : Int32))]) [1, 0] rfl ?_
    exact T_M_back_b11 (g := g) N e he N (0 : Int32) M
def F_W_countOfStand (x1 : Int32) (M : mj_M) : Option (Int32 × mj_M) :=
    if x1 = (5 : Int32) then
     (some (M 20 3, M))
     else
     (if x1 = (6 : Int32) then
     (some (M 20 0, M))
     else
     (if x1 = (7 : Int32) then
     (some (M 20 1, M))
     else
     (if x1 = (8 : Int32) then
     (some (M 20 2, M))
     else
     (if x1 = (9 : Int32) then
     (some (M 20 4, M))
     else
     (if x1 = (10 : Int32) then
     (some (M 20 5, M))
     else
     (some ((-1000000 : Int32), M)))))))
set_option maxRecDepth 20000 in
theorem T_W_countOfStand {g : mj_G} : ∀ d, 1 ≤ d → ∀ (x1 : Int32) (M : mj_M), mj_Mt g (mj_qI g) d y_W_countOfStand c_W_countOfStand 2 (some .int) [.ref 0, .int x1] M (F_W_countOfStand x1 M) := by
  intro d hd x1 M
  obtain ⟨e, rfl⟩ : ∃ e, d = e + 1 := ⟨d - 1, by omega⟩
  have he : 0 ≤ e := by omega
  refine mj_met (by decide +kernel) (Nat.le_of_ble_eq_true rfl) ?_
  unfold F_W_countOfStand
  refine mj_L (L' := [(0, .ref 0), (1, .int x1)]) [0, 1] rfl ?_
  refine mj_iload_n (pc := 0) (i := 1) rfl dd_W_countOfStand_0 ?_
  refine mj_ife (fun h1 => ?_) (fun h1 => ?_)
  · refine mj_tswK (pc := 1) (tgt := 40) (k := (5 : Int32)) (off := 39) h1 dd_W_countOfStand_1 (by decide) (by decide) rfl rfl ?_
    refine mj_aload_n (pc := 40) (i := 0) rfl dd_W_countOfStand_40 ?_
    refine mj_getR (pc := 41) (b := 0) (k := 5) qf_W_49 sh_0 cl_11 rfl (by decide) (r := 20) rfl dd_W_countOfStand_41 ?_
    refine mj_getI (pc := 44) (b := 20) (k := 3) qf_W_224 sh_20 cl_8 rfl (by decide) rfl dd_W_countOfStand_44 ?_
    exact mj_iret dd_W_countOfStand_47 rfl rfl
  · refine mj_ife (fun h2 => ?_) (fun h2 => ?_)
    · refine mj_tswK (pc := 1) (tgt := 48) (k := (6 : Int32)) (off := 47) h2 dd_W_countOfStand_1 (by decide) (by decide) rfl rfl ?_
      refine mj_aload_n (pc := 48) (i := 0) rfl dd_W_countOfStand_48 ?_
      refine mj_getR (pc := 49) (b := 0) (k := 5) qf_W_49 sh_0 cl_11 rfl (by decide) (r := 20) rfl dd_W_countOfStand_49 ?_
      refine mj_getI (pc := 52) (b := 20) (k := 0) qf_W_198 sh_20 cl_8 rfl (by decide) rfl dd_W_countOfStand_52 ?_
      exact mj_iret dd_W_countOfStand_55 rfl rfl
    · refine mj_ife (fun h3 => ?_) (fun h3 => ?_)
      · refine mj_tswK (pc := 1) (tgt := 56) (k := (7 : Int32)) (off := 55) h3 dd_W_countOfStand_1 (by decide) (by decide) rfl rfl ?_
        refine mj_aload_n (pc := 56) (i := 0) rfl dd_W_countOfStand_56 ?_
        refine mj_getR (pc := 57) (b := 0) (k := 5) qf_W_49 sh_0 cl_11 rfl (by decide) (r := 20) rfl dd_W_countOfStand_57 ?_
        refine mj_getI (pc := 60) (b := 20) (k := 1) qf_W_227 sh_20 cl_8 rfl (by decide) rfl dd_W_countOfStand_60 ?_
        exact mj_iret dd_W_countOfStand_63 rfl rfl
      · refine mj_ife (fun h4 => ?_) (fun h4 => ?_)
        · refine mj_tswK (pc := 1) (tgt := 64) (k := (8 : Int32)) (off := 63) h4 dd_W_countOfStand_1 (by decide) (by decide) rfl rfl ?_
          refine mj_aload_n (pc := 64) (i := 0) rfl dd_W_countOfStand_64 ?_
          refine mj_getR (pc := 65) (b := 0) (k := 5) qf_W_49 sh_0 cl_11 rfl (by decide) (r := 20) rfl dd_W_countOfStand_65 ?_
          refine mj_getI (pc := 68) (b := 20) (k := 2) qf_W_218 sh_20 cl_8 rfl (by decide) rfl dd_W_countOfStand_68 ?_
          exact mj_iret dd_W_countOfStand_71 rfl rfl
        · refine mj_ife (fun h5 => ?_) (fun h5 => ?_)
          · refine mj_tswK (pc := 1) (tgt := 72) (k := (9 : Int32)) (off := 71) h5 dd_W_countOfStand_1 (by decide) (by decide) rfl rfl ?_
            refine mj_aload_n (pc := 72) (i := 0) rfl dd_W_countOfStand_72 ?_
            refine mj_getR (pc := 73) (b := 0) (k := 5) qf_W_49 sh_0 cl_11 rfl (by decide) (r := 20) rfl dd_W_countOfStand_73 ?_
            refine mj_getI (pc := 76) (b := 20) (k := 4) qf_W_378 sh_20 cl_8 rfl (by decide) rfl dd_W_countOfStand_76 ?_
            exact mj_iret dd_W_countOfStand_79 rfl rfl
          · refine mj_ife (fun h6 => ?_) (fun h6 => ?_)
            · refine mj_tswK (pc := 1) (tgt := 80) (k := (10 : Int32)) (off := 79) h6 dd_W_countOfStand_1 (by decide) (by decide) rfl rfl ?_
              refine mj_aload_n (pc := 80) (i := 0) rfl dd_W_countOfStand_80 ?_
              refine mj_getR (pc := 81) (b := 0) (k := 5) qf_W_49 sh_0 cl_11 rfl (by decide) (r := 20) rfl dd_W_countOfStand_81 ?_
              refine mj_getI (pc := 84) (b := 20) (k := 5) qf_W_381 sh_20 cl_8 rfl (by decide) rfl dd_W_countOfStand_84 ?_
              exact mj_iret dd_W_countOfStand_87 rfl rfl
            · refine mj_tswD (pc := 1) (tgt := 88) [5, 6, 7, 8, 9, 10] (mj_k1 (mj_ni (k := (5 : Int32)) (n := 5) (by decide) h1) (mj_k1 (mj_ni (k := (6 : Int32)) (n := 6) (by decide) h2) (mj_k1 (mj_ni (k := (7 : Int32)) (n := 7) (by decide) h3) (mj_k1 (mj_ni (k := (8 : Int32)) (n := 8) (by decide) h4) (mj_k1 (mj_ni (k := (9 : Int32)) (n := 9) (by decide) h5) (mj_k1 (mj_ni (k := (10 : Int32)) (n := 10) (by decide) h6) mj_k0)))))) dd_W_countOfStand_1 (by decide) (by decide) rfl ?_
              refine mj_ldcw (pc := 88) qc_W_314 dd_W_countOfStand_88 ?_
              exact mj_iret dd_W_countOfStand_91 rfl rfl
def F_W_count (x1 : Int32) (M : mj_M) : Option (Int32 × mj_M) :=
    if x1 = (0 : Int32) then
     (some (M 13 0, M))
     else
     (if x1 = (1 : Int32) then
     (some (M 13 1, M))
     else
     (if x1 = (2 : Int32) then
     (some (M 8 0, M))
     else
     (if x1 = (3 : Int32) then
     (some (M 2 1, M))
     else
     (if x1 = (4 : Int32) then
     (some (M 8 1, M))
     else
     (if x1 = (11 : Int32) then
     (some (M 0 12, M))
     else
     (if x1 = (12 : Int32) then
     (some (M 29 0, M))
     else
     (if x1 = (13 : Int32) then
     ((F_Stand_logSize M).bind (fun q9 =>
     some (q9.1, q9.2)))
     else
     (if x1 = (14 : Int32) then
     (some (M 24 0, M))
     else
     ((F_W_countOfStand x1 M).bind (fun q11 =>
     some (q11.1, q11.2)))))))))))
set_option maxRecDepth 20000 in
theorem T_W_count {g : mj_G} : ∀ d, 2 ≤ d → ∀ (x1 : Int32) (M : mj_M), mj_Mt g (mj_qI g) d y_W_count c_W_count 2 (some .int) [.ref 0, .int x1] M (F_W_count x1 M) := by
  intro d hd x1 M
  obtain ⟨e, rfl⟩ : ∃ e, d = e + 1 := ⟨d - 1, by omega⟩
  have he : 1 ≤ e := by omega
  refine mj_met (by decide +kernel) (Nat.le_of_ble_eq_true rfl) ?_
  unfold F_W_count
  refine mj_L (L' := [(0, .ref 0), (1, .int x1)]) [0, 1] rfl ?_
  refine mj_iload_n (pc := 0) (i := 1) rfl dd_W_count_0 ?_
  refine mj_ife (fun h1 => ?_) (fun h1 => ?_)
  · refine mj_tswK (pc := 1) (tgt := 76) (k := (0 : Int32)) (off := 75) h1 dd_W_count_1 (by decide) (by decide) rfl rfl ?_
    refine mj_aload_n (pc := 76) (i := 0) rfl dd_W_count_76 ?_
    refine mj_getR (pc := 77) (b := 0) (k := 4) qf_W_42 sh_0 cl_11 rfl (by decide) (r := 13) rfl dd_W_count_77 ?_
    refine mj_getI (pc := 80) (b := 13) (k := 0) qf_W_121 sh_13 cl_0 rfl (by decide) rfl dd_W_count_80 ?_
    exact mj_iret dd_W_count_83 rfl rfl
  · refine mj_ife (fun h2 => ?_) (fun h2 => ?_)
    · refine mj_tswK (pc := 1) (tgt := 84) (k := (1 : Int32)) (off := 83) h2 dd_W_count_1 (by decide) (by decide) rfl rfl ?_
      refine mj_aload_n (pc := 84) (i := 0) rfl dd_W_count_84 ?_
      refine mj_getR (pc := 85) (b := 0) (k := 4) qf_W_42 sh_0 cl_11 rfl (by decide) (r := 13) rfl dd_W_count_85 ?_
      refine mj_getI (pc := 88) (b := 13) (k := 1) qf_W_250 sh_13 cl_0 rfl (by decide) rfl dd_W_count_88 ?_
      exact mj_iret dd_W_count_91 rfl rfl
    · refine mj_ife (fun h3 => ?_) (fun h3 => ?_)
      · refine mj_tswK (pc := 1) (tgt := 92) (k := (2 : Int32)) (off := 91) h3 dd_W_count_1 (by decide) (by decide) rfl rfl ?_
        refine mj_aload_n (pc := 92) (i := 0) rfl dd_W_count_92 ?_
        refine mj_getR (pc := 93) (b := 0) (k := 3) qf_W_35 sh_0 cl_11 rfl (by decide) (r := 8) rfl dd_W_count_93 ?_
        refine mj_getI (pc := 96) (b := 8) (k := 0) qf_W_124 sh_8 cl_5 rfl (by decide) rfl dd_W_count_96 ?_
        exact mj_iret dd_W_count_99 rfl rfl
      · refine mj_ife (fun h4 => ?_) (fun h4 => ?_)
        · refine mj_tswK (pc := 1) (tgt := 100) (k := (3 : Int32)) (off := 99) h4 dd_W_count_1 (by decide) (by decide) rfl rfl ?_
          refine mj_aload_n (pc := 100) (i := 0) rfl dd_W_count_100 ?_
          refine mj_getR (pc := 101) (b := 0) (k := 0) qf_W_12 sh_0 cl_11 rfl (by decide) (r := 2) rfl dd_W_count_101 ?_
          refine mj_getI (pc := 104) (b := 2) (k := 1) qf_W_106 sh_2 cl_10 rfl (by decide) rfl dd_W_count_104 ?_
          exact mj_iret dd_W_count_107 rfl rfl
        · refine mj_ife (fun h5 => ?_) (fun h5 => ?_)
          · refine mj_tswK (pc := 1) (tgt := 108) (k := (4 : Int32)) (off := 107) h5 dd_W_count_1 (by decide) (by decide) rfl rfl ?_
            refine mj_aload_n (pc := 108) (i := 0) rfl dd_W_count_108 ?_
            refine mj_getR (pc := 109) (b := 0) (k := 3) qf_W_35 sh_0 cl_11 rfl (by decide) (r := 8) rfl dd_W_count_109 ?_
            refine mj_getI (pc := 112) (b := 8) (k := 1) qf_W_192 sh_8 cl_5 rfl (by decide) rfl dd_W_count_112 ?_
            exact mj_iret dd_W_count_115 rfl rfl
          · refine mj_ife (fun h6 => ?_) (fun h6 => ?_)
            · refine mj_tswK (pc := 1) (tgt := 116) (k := (11 : Int32)) (off := 115) h6 dd_W_count_1 (by decide) (by decide) rfl rfl ?_
              refine mj_aload_n (pc := 116) (i := 0) rfl dd_W_count_116 ?_
              refine mj_getI (pc := 117) (b := 0) (k := 12) qf_W_98 sh_0 cl_11 rfl (by decide) rfl dd_W_count_117 ?_
              exact mj_iret dd_W_count_120 rfl rfl
            · refine mj_ife (fun h7 => ?_) (fun h7 => ?_)
              · refine mj_tswK (pc := 1) (tgt := 121) (k := (12 : Int32)) (off := 120) h7 dd_W_count_1 (by decide) (by decide) rfl rfl ?_
                refine mj_aload_n (pc := 121) (i := 0) rfl dd_W_count_121 ?_
                refine mj_getR (pc := 122) (b := 0) (k := 8) qf_W_74 sh_0 cl_11 rfl (by decide) (r := 29) rfl dd_W_count_122 ?_
                refine mj_getI (pc := 125) (b := 29) (k := 0) qf_W_147 sh_29 cl_3 rfl (by decide) rfl dd_W_count_125 ?_
                exact mj_iret dd_W_count_128 rfl rfl
              · refine mj_ife (fun h8 => ?_) (fun h8 => ?_)
                · refine mj_tswK (pc := 1) (tgt := 129) (k := (13 : Int32)) (off := 128) h8 dd_W_count_1 (by decide) (by decide) rfl rfl ?_
                  refine mj_aload_n (pc := 129) (i := 0) rfl dd_W_count_129 ?_
                  refine mj_getR (pc := 130) (b := 0) (k := 5) qf_W_49 sh_0 cl_11 rfl (by decide) (r := 20) rfl dd_W_count_130 ?_
                  refine mj_callVI (pc := 133) (idx := 271) (b := 20) (As := []) (st := []) sh_20 cl_8 ev_Stand_logSize ql_W_271 rfl (Nat.le_of_ble_eq_true rfl) (T_Stand_logSize (g := g) e (by omega) M) dd_W_count_133 (fun q9 hq9 => ?_)
                  exact mj_iret dd_W_count_136 rfl rfl
                · refine mj_ife (fun h10 => ?_) (fun h10 => ?_)
                  · refine mj_tswK (pc := 1) (tgt := 137) (k := (14 : Int32)) (off := 136) h10 dd_W_count_1 (by decide) (by decide) rfl rfl ?_
                    refine mj_aload_n (pc := 137) (i := 0) rfl dd_W_count_137 ?_
                    refine mj_getR (pc := 138) (b := 0) (k := 6) qf_W_56 sh_0 cl_11 rfl (by decide) (r := 24) rfl dd_W_count_138 ?_
                    refine mj_getI (pc := 141) (b := 24) (k := 0) qf_W_265 sh_24 cl_6 rfl (by decide) rfl dd_W_count_141 ?_
                    exact mj_iret dd_W_count_144 rfl rfl
                  · refine mj_tswD (pc := 1) (tgt := 145) [0, 1, 2, 3, 4, 11, 12, 13, 14] (mj_k1 (mj_ni (k := (0 : Int32)) (n := 0) (by decide) h1) (mj_k1 (mj_ni (k := (1 : Int32)) (n := 1) (by decide) h2) (mj_k1 (mj_ni (k := (2 : Int32)) (n := 2) (by decide) h3) (mj_k1 (mj_ni (k := (3 : Int32)) (n := 3) (by decide) h4) (mj_k1 (mj_ni (k := (4 : Int32)) (n := 4) (by decide) h5) (mj_k1 (mj_ni (k := (11 : Int32)) (n := 11) (by decide) h6) (mj_k1 (mj_ni (k := (12 : Int32)) (n := 12) (by decide) h7) (mj_k1 (mj_ni (k := (13 : Int32)) (n := 13) (by decide) h8) (mj_k1 (mj_ni (k := (14 : Int32)) (n := 14) (by decide) h10) mj_k0))))))))) dd_W_count_1 (by decide) (by decide) rfl ?_
                    refine mj_aload_n (pc := 145) (i := 0) rfl dd_W_count_145 ?_
                    refine mj_iload_n (pc := 146) (i := 1) rfl dd_W_count_146 ?_
                    refine mj_callVI (pc := 147) (idx := 375) (b := 0) (As := [.int x1]) (st := []) sh_0 cl_11 ev_W_countOfStand ql_W_375 rfl (Nat.le_of_ble_eq_true rfl) (T_W_countOfStand (g := g) e (by omega) x1 M) dd_W_count_147 (fun q11 hq11 => ?_)
                    exact mj_iret dd_W_count_150 rfl rfl
def F_M_count (x1 : Int32) (M : mj_M) : Option (Int32 × mj_M) :=
    if x1 = (0 : Int32) then
     (some (M 48 25, M))
     else
     (if x1 = (1 : Int32) then
     (some (M 48 26, M))
     else
     (if x1 = (2 : Int32) then
     (some (M 48 13, M))
     else
     (if x1 = (3 : Int32) then
     (some (M 48 2, M))
     else
     (if x1 = (4 : Int32) then
     (some (M 48 29, M))
     else
     (if x1 = (5 : Int32) then
     (some (M 65 45, M))
     else
     (if x1 = (6 : Int32) then
     (some (M 65 42, M))
     else
     (if x1 = (7 : Int32) then
     (some (M 65 43, M))
     else
     (if x1 = (8 : Int32) then
     (some (M 65 44, M))
     else
     (if x1 = (9 : Int32) then
     (some (M 65 46, M))
     else
     (if x1 = (10 : Int32) then
     (some (M 65 47, M))
     else
     (if x1 = (11 : Int32) then
     (some (M 48 30, M))
     else
     (if x1 = (12 : Int32) then
     (some (M 48 40, M))
     else
     (if x1 = (13 : Int32) then
     (some (M 65 48, M))
     else
     (if x1 = (14 : Int32) then
     (some (M 48 32, M))
     else
     (some ((-1000000 : Int32), M))))))))))))))))
set_option maxRecDepth 20000 in
theorem T_M_count {g : mj_G} : ∀ d, 1 ≤ d → ∀ (x1 : Int32) (M : mj_M), mj_Mt g (mj_qI g) d y_M_count c_M_count 2 (some .int) [.ref 48, .int x1] M (F_M_count x1 M) := by
  intro d hd x1 M
  obtain ⟨e, rfl⟩ : ∃ e, d = e + 1 := ⟨d - 1, by omega⟩
  have he : 0 ≤ e := by omega
  refine mj_met (by decide +kernel) (Nat.le_of_ble_eq_true rfl) ?_
  unfold F_M_count
  refine mj_L (L' := [(0, .ref 48), (1, .int x1)]) [0, 1] rfl ?_
  refine mj_iload_n (pc := 0) (i := 1) rfl dd_M_count_0 ?_
  refine mj_ife (fun h1 => ?_) (fun h1 => ?_)
  · refine mj_tswK (pc := 1) (tgt := 76) (k := (0 : Int32)) (off := 75) h1 dd_M_count_1 (by decide) (by decide) rfl rfl ?_
    refine mj_aload_n (pc := 76) (i := 0) rfl dd_M_count_76 ?_
    refine mj_getI (pc := 77) (b := 48) (k := 25) qf_M_242 sh_48 cl_12 rfl (by decide) rfl dd_M_count_77 ?_
    exact mj_iret dd_M_count_80 rfl rfl
  · refine mj_ife (fun h2 => ?_) (fun h2 => ?_)
    · refine mj_tswK (pc := 1) (tgt := 81) (k := (1 : Int32)) (off := 80) h2 dd_M_count_1 (by decide) (by decide) rfl rfl ?_
      refine mj_aload_n (pc := 81) (i := 0) rfl dd_M_count_81 ?_
      refine mj_getI (pc := 82) (b := 48) (k := 26) qf_M_245 sh_48 cl_12 rfl (by decide) rfl dd_M_count_82 ?_
      exact mj_iret dd_M_count_85 rfl rfl
    · refine mj_ife (fun h3 => ?_) (fun h3 => ?_)
      · refine mj_tswK (pc := 1) (tgt := 86) (k := (2 : Int32)) (off := 85) h3 dd_M_count_1 (by decide) (by decide) rfl rfl ?_
        refine mj_aload_n (pc := 86) (i := 0) rfl dd_M_count_86 ?_
        refine mj_getI (pc := 87) (b := 48) (k := 13) qf_M_267 sh_48 cl_12 rfl (by decide) rfl dd_M_count_87 ?_
        exact mj_iret dd_M_count_90 rfl rfl
      · refine mj_ife (fun h4 => ?_) (fun h4 => ?_)
        · refine mj_tswK (pc := 1) (tgt := 91) (k := (3 : Int32)) (off := 90) h4 dd_M_count_1 (by decide) (by decide) rfl rfl ?_
          refine mj_aload_n (pc := 91) (i := 0) rfl dd_M_count_91 ?_
          refine mj_getI (pc := 92) (b := 48) (k := 2) qf_M_97 sh_48 cl_12 rfl (by decide) rfl dd_M_count_92 ?_
          exact mj_iret dd_M_count_95 rfl rfl
        · refine mj_ife (fun h5 => ?_) (fun h5 => ?_)
          · refine mj_tswK (pc := 1) (tgt := 96) (k := (4 : Int32)) (off := 95) h5 dd_M_count_1 (by decide) (by decide) rfl rfl ?_
            refine mj_aload_n (pc := 96) (i := 0) rfl dd_M_count_96 ?_
            refine mj_getI (pc := 97) (b := 48) (k := 29) qf_M_64 sh_48 cl_12 rfl (by decide) rfl dd_M_count_97 ?_
            exact mj_iret dd_M_count_100 rfl rfl
          · refine mj_ife (fun h6 => ?_) (fun h6 => ?_)
            · refine mj_tswK (pc := 1) (tgt := 101) (k := (5 : Int32)) (off := 100) h6 dd_M_count_1 (by decide) (by decide) rfl rfl ?_
              refine mj_aload_n (pc := 101) (i := 0) rfl dd_M_count_101 ?_
              refine mj_getR (pc := 102) (b := 48) (k := 27) qf_M_58 sh_48 cl_12 rfl (by decide) (r := 65) rfl dd_M_count_102 ?_
              refine mj_bipush (pc := 105) (v := (45 : Int32)) (by decide) dd_M_count_105 ?_
              refine mj_ialdK (pc := 107) (j := 45) sh_65 (by decide) rfl dd_M_count_107 ?_
              exact mj_iret dd_M_count_108 rfl rfl
            · refine mj_ife (fun h7 => ?_) (fun h7 => ?_)
              · refine mj_tswK (pc := 1) (tgt := 109) (k := (6 : Int32)) (off := 108) h7 dd_M_count_1 (by decide) (by decide) rfl rfl ?_
                refine mj_aload_n (pc := 109) (i := 0) rfl dd_M_count_109 ?_
                refine mj_getR (pc := 110) (b := 48) (k := 27) qf_M_58 sh_48 cl_12 rfl (by decide) (r := 65) rfl dd_M_count_110 ?_
                refine mj_bipush (pc := 113) (v := (42 : Int32)) (by decide) dd_M_count_113 ?_
                refine mj_ialdK (pc := 115) (j := 42) sh_65 (by decide) rfl dd_M_count_115 ?_
                exact mj_iret dd_M_count_116 rfl rfl
              · refine mj_ife (fun h8 => ?_) (fun h8 => ?_)
                · refine mj_tswK (pc := 1) (tgt := 117) (k := (7 : Int32)) (off := 116) h8 dd_M_count_1 (by decide) (by decide) rfl rfl ?_
                  refine mj_aload_n (pc := 117) (i := 0) rfl dd_M_count_117 ?_
                  refine mj_getR (pc := 118) (b := 48) (k := 27) qf_M_58 sh_48 cl_12 rfl (by decide) (r := 65) rfl dd_M_count_118 ?_
                  refine mj_bipush (pc := 121) (v := (43 : Int32)) (by decide) dd_M_count_121 ?_
                  refine mj_ialdK (pc := 123) (j := 43) sh_65 (by decide) rfl dd_M_count_123 ?_
                  exact mj_iret dd_M_count_124 rfl rfl
                · refine mj_ife (fun h9 => ?_) (fun h9 => ?_)
                  · refine mj_tswK (pc := 1) (tgt := 125) (k := (8 : Int32)) (off := 124) h9 dd_M_count_1 (by decide) (by decide) rfl rfl ?_
                    refine mj_aload_n (pc := 125) (i := 0) rfl dd_M_count_125 ?_
                    refine mj_getR (pc := 126) (b := 48) (k := 27) qf_M_58 sh_48 cl_12 rfl (by decide) (r := 65) rfl dd_M_count_126 ?_
                    refine mj_bipush (pc := 129) (v := (44 : Int32)) (by decide) dd_M_count_129 ?_
                    refine mj_ialdK (pc := 131) (j := 44) sh_65 (by decide) rfl dd_M_count_131 ?_
                    exact mj_iret dd_M_count_132 rfl rfl
                  · refine mj_ife (fun h10 => ?_) (fun h10 => ?_)
                    · refine mj_tswK (pc := 1) (tgt := 133) (k := (9 : Int32)) (off := 132) h10 dd_M_count_1 (by decide) (by decide) rfl rfl ?_
                      refine mj_aload_n (pc := 133) (i := 0) rfl dd_M_count_133 ?_
                      refine mj_getR (pc := 134) (b := 48) (k := 27) qf_M_58 sh_48 cl_12 rfl (by decide) (r := 65) rfl dd_M_count_134 ?_
                      refine mj_bipush (pc := 137) (v := (46 : Int32)) (by decide) dd_M_count_137 ?_
                      refine mj_ialdK (pc := 139) (j := 46) sh_65 (by decide) rfl dd_M_count_139 ?_
                      exact mj_iret dd_M_count_140 rfl rfl
                    · refine mj_ife (fun h11 => ?_) (fun h11 => ?_)
                      · refine mj_tswK (pc := 1) (tgt := 141) (k := (10 : Int32)) (off := 140) h11 dd_M_count_1 (by decide) (by decide) rfl rfl ?_
                        refine mj_aload_n (pc := 141) (i := 0) rfl dd_M_count_141 ?_
                        refine mj_getR (pc := 142) (b := 48) (k := 27) qf_M_58 sh_48 cl_12 rfl (by decide) (r := 65) rfl dd_M_count_142 ?_
                        refine mj_bipush (pc := 145) (v := (47 : Int32)) (by decide) dd_M_count_145 ?_
                        refine mj_ialdK (pc := 147) (j := 47) sh_65 (by decide) rfl dd_M_count_147 ?_
                        exact mj_iret dd_M_count_148 rfl rfl
                      · refine mj_ife (fun h12 => ?_) (fun h12 => ?_)
                        · refine mj_tswK (pc := 1) (tgt := 149) (k := (11 : Int32)) (off := 148) h12 dd_M_count_1 (by decide) (by decide) rfl rfl ?_
                          refine mj_aload_n (pc := 149) (i := 0) rfl dd_M_count_149 ?_
                          refine mj_getI (pc := 150) (b := 48) (k := 30) qf_M_68 sh_48 cl_12 rfl (by decide) rfl dd_M_count_150 ?_
                          exact mj_iret dd_M_count_153 rfl rfl
                        · refine mj_ife (fun h13 => ?_) (fun h13 => ?_)
                          · refine mj_tswK (pc := 1) (tgt := 154) (k := (12 : Int32)) (off := 153) h13 dd_M_count_1 (by decide) (by decide) rfl rfl ?_
                            refine mj_aload_n (pc := 154) (i := 0) rfl dd_M_count_154 ?_
                            refine mj_getI (pc := 155) (b := 48) (k := 40) qf_M_254 sh_48 cl_12 rfl (by decide) rfl dd_M_count_155 ?_
                            exact mj_iret dd_M_count_158 rfl rfl
                          · refine mj_ife (fun h14 => ?_) (fun h14 => ?_)
                            · refine mj_tswK (pc := 1) (tgt := 159) (k := (13 : Int32)) (off := 158) h14 dd_M_count_1 (by decide) (by decide) rfl rfl ?_
                              refine mj_aload_n (pc := 159) (i := 0) rfl dd_M_count_159 ?_
                              refine mj_getR (pc := 160) (b := 48) (k := 27) qf_M_58 sh_48 cl_12 rfl (by decide) (r := 65) rfl dd_M_count_160 ?_
                              refine mj_bipush (pc := 163) (v := (48 : Int32)) (by decide) dd_M_count_163 ?_
                              refine mj_ialdK (pc := 165) (j := 48) sh_65 (by decide) rfl dd_M_count_165 ?_
                              exact mj_iret dd_M_count_166 rfl rfl
                            · refine mj_ife (fun h15 => ?_) (fun h15 => ?_)
                              · refine mj_tswK (pc := 1) (tgt := 167) (k := (14 : Int32)) (off := 166) h15 dd_M_count_1 (by decide) (by decide) rfl rfl ?_
                                refine mj_aload_n (pc := 167) (i := 0) rfl dd_M_count_167 ?_
                                refine mj_getI (pc := 168) (b := 48) (k := 32) qf_M_257 sh_48 cl_12 rfl (by decide) rfl dd_M_count_168 ?_
                                exact mj_iret dd_M_count_171 rfl rfl
                              · refine mj_tswD (pc := 1) (tgt := 172) [0, 1, 2, 3, 4, 5, 6, 7, 8, 9, 10, 11, 12, 13, 14] (mj_k1 (mj_ni (k := (0 : Int32)) (n := 0) (by decide) h1) (mj_k1 (mj_ni (k := (1 : Int32)) (n := 1) (by decide) h2) (mj_k1 (mj_ni (k := (2 : Int32)) (n := 2) (by decide) h3) (mj_k1 (mj_ni (k := (3 : Int32)) (n := 3) (by decide) h4) (mj_k1 (mj_ni (k := (4 : Int32)) (n := 4) (by decide) h5) (mj_k1 (mj_ni (k := (5 : Int32)) (n := 5) (by decide) h6) (mj_k1 (mj_ni (k := (6 : Int32)) (n := 6) (by decide) h7) (mj_k1 (mj_ni (k := (7 : Int32)) (n := 7) (by decide) h8) (mj_k1 (mj_ni (k := (8 : Int32)) (n := 8) (by decide) h9) (mj_k1 (mj_ni (k := (9 : Int32)) (n := 9) (by decide) h10) (mj_k1 (mj_ni (k := (10 : Int32)) (n := 10) (by decide) h11) (mj_k1 (mj_ni (k := (11 : Int32)) (n := 11) (by decide) h12) (mj_k1 (mj_ni (k := (12 : Int32)) (n := 12) (by decide) h13) (mj_k1 (mj_ni (k := (13 : Int32)) (n := 13) (by decide) h14) (mj_k1 (mj_ni (k := (14 : Int32)) (n := 14) (by decide) h15) mj_k0))))))))))))))) dd_M_count_1 (by decide) (by decide) rfl ?_
                                refine mj_ldcw (pc := 172) qc_M_383 dd_M_count_172 ?_
                                exact mj_iret dd_M_count_175 rfl rfl
def F_W_tale_b20 (M : mj_M) : Option (Int32 × mj_M) :=
    none
set_option maxRecDepth 20000 in
theorem T_W_tale_b20 {g : mj_G} (e : Nat) (he : 1 ≤ e) (M : mj_M) : mj_X g (mj_qI g) "WinterTellers" c_W_tale 3 (some .int) e 20 [] [] M (F_W_tale_b20 M) := by
  unfold F_W_tale_b20
  exact mj_none
def F_W_tale_b28 (x1 : Int32) (x2 : Int32) (M : mj_M) : Option (Int32 × mj_M) :=
    if x2 = (0 : Int32) then
     (mj_ck x1 6 (
     some (M 17 x1.toNatClampNeg, M)))
     else
     (if x2 = (1 : Int32) then
     (mj_ck x1 6 (
     some (M 21 x1.toNatClampNeg, M)))
     else
     (if x2 = (2 : Int32) then
     (mj_ck x1 6 (
     some (M 19 x1.toNatClampNeg, M)))
     else
     ((F_Stand_owns x1 M).bind (fun q8 =>
     if q8.1 = (0) then
     (some ((0 : Int32), q8.2))
     else
     (some ((1 : Int32), q8.2))))))
set_option maxRecDepth 20000 in
theorem T_W_tale_b28 {g : mj_G} (e : Nat) (he : 1 ≤ e) (x1 : Int32) (x2 : Int32) (M : mj_M) : mj_X g (mj_qI g) "WinterTellers" c_W_tale 3 (some .int) e 28 [(0, .ref 0), (1, .int x1), (2, .int x2)] [] M (F_W_tale_b28 x1 x2 M) := by
  unfold F_W_tale_b28
  refine mj_iload_n (pc := 28) (i := 2) rfl dd_W_tale_28 ?_
  refine mj_ife (fun h5 => ?_) (fun h5 => ?_)
  · refine mj_tswK (pc := 29) (tgt := 56) (k := (0 : Int32)) (off := 27) h5 dd_W_tale_29 (by decide) (by decide) rfl rfl ?_
    refine mj_aload_n (pc := 56) (i := 0) rfl dd_W_tale_56 ?_
    refine mj_getR (pc := 57) (b := 0) (k := 4) qf_W_42 sh_0 cl_11 rfl (by decide) (r := 13) rfl dd_W_tale_57 ?_
    refine mj_getR (pc := 60) (b := 13) (k := 9) qf_W_169 sh_13 cl_0 rfl (by decide) (r := 17) rfl dd_W_tale_60 ?_
    refine mj_iload_n (pc := 63) (i := 1) rfl dd_W_tale_63 ?_
    refine mj_iald (pc := 64) sh_17 dd_W_tale_64 ?_
    exact mj_iret dd_W_tale_65 rfl rfl
  · refine mj_ife (fun h6 => ?_) (fun h6 => ?_)
    · refine mj_tswK (pc := 29) (tgt := 66) (k := (1 : Int32)) (off := 37) h6 dd_W_tale_29 (by decide) (by decide) rfl rfl ?_
      refine mj_aload_n (pc := 66) (i := 0) rfl dd_W_tale_66 ?_
      refine mj_getR (pc := 67) (b := 0) (k := 5) qf_W_49 sh_0 cl_11 rfl (by decide) (r := 20) rfl dd_W_tale_67 ?_
      refine mj_getR (pc := 70) (b := 20) (k := 7) qf_W_172 sh_20 cl_8 rfl (by decide) (r := 21) rfl dd_W_tale_70 ?_
      refine mj_iload_n (pc := 73) (i := 1) rfl dd_W_tale_73 ?_
      refine mj_iald (pc := 74) sh_21 dd_W_tale_74 ?_
      exact mj_iret dd_W_tale_75 rfl rfl
    · refine mj_ife (fun h7 => ?_) (fun h7 => ?_)
      · refine mj_tswK (pc := 29) (tgt := 76) (k := (2 : Int32)) (off := 47) h7 dd_W_tale_29 (by decide) (by decide) rfl rfl ?_
        refine mj_aload_n (pc := 76) (i := 0) rfl dd_W_tale_76 ?_
        refine mj_getR (pc := 77) (b := 0) (k := 4) qf_W_42 sh_0 cl_11 rfl (by decide) (r := 13) rfl dd_W_tale_77 ?_
        refine mj_getR (pc := 80) (b := 13) (k := 11) qf_W_175 sh_13 cl_0 rfl (by decide) (r := 19) rfl dd_W_tale_80 ?_
        refine mj_iload_n (pc := 83) (i := 1) rfl dd_W_tale_83 ?_
        refine mj_iald (pc := 84) sh_19 dd_W_tale_84 ?_
        exact mj_iret dd_W_tale_85 rfl rfl
      · refine mj_tswD (pc := 29) (tgt := 86) [0, 1, 2] (mj_k1 (mj_ni (k := (0 : Int32)) (n := 0) (by decide) h5) (mj_k1 (mj_ni (k := (1 : Int32)) (n := 1) (by decide) h6) (mj_k1 (mj_ni (k := (2 : Int32)) (n := 2) (by decide) h7) mj_k0))) dd_W_tale_29 (by decide) (by decide) rfl ?_
        refine mj_aload_n (pc := 86) (i := 0) rfl dd_W_tale_86 ?_
        refine mj_getR (pc := 87) (b := 0) (k := 5) qf_W_49 sh_0 cl_11 rfl (by decide) (r := 20) rfl dd_W_tale_87 ?_
        refine mj_iload_n (pc := 90) (i := 1) rfl dd_W_tale_90 ?_
        refine mj_callVI (pc := 91) (idx := 178) (b := 20) (As := [.int x1]) (st := []) sh_20 cl_8 ev_Stand_owns ql_W_178 rfl (Nat.le_of_ble_eq_true rfl) (T_Stand_owns (g := g) e (by omega) x1 M) dd_W_tale_91 (fun q8 hq8 => ?_)
        refine mj_if_eq (pc := 94) (tgt := 101) dd_W_tale_94 rfl (fun h9 => ?_) (fun h9 => ?_)
        · refine mj_iconst (pc := 101) (v := (0 : Int32)) (by decide) dd_W_tale_101 ?_
          exact mj_iret dd_W_tale_102 rfl rfl
        · refine mj_iconst (pc := 97) (v := (1 : Int32)) (by decide) dd_W_tale_97 ?_
          refine mj_goto (pc := 98) (tgt := 102) dd_W_tale_98 rfl ?_
          exact mj_iret dd_W_tale_102 rfl rfl
def F_W_tale (x1 : Int32) (x2 : Int32) (M : mj_M) : Option (Int32 × mj_M) :=
    (F_Coast_hasTale x1 M).bind (fun q1 =>
     if q1.1 = (0) then
     (F_W_tale_b20 q1.2)
     else
     (if x2 < (0) then
     (F_W_tale_b20 q1.2)
     else
     (if x2 ≤ (3 : Int32) then
     (F_W_tale_b28 x1 x2 q1.2)
     else
     (F_W_tale_b20 q1.2))))
set_option maxRecDepth 20000 in
theorem T_W_tale {g : mj_G} : ∀ d, 2 ≤ d → ∀ (x1 : Int32) (x2 : Int32) (M : mj_M), mj_Mt g (mj_qI g) d y_W_tale c_W_tale 3 (some .int) [.ref 0, .int x1, .int x2] M (F_W_tale x1 x2 M) := by
  intro d hd x1 x2 M
  obtain ⟨e, rfl⟩ : ∃ e, d = e + 1 := ⟨d - 1, by omega⟩
  have he : 1 ≤ e := by omega
  refine mj_met (by decide +kernel) (Nat.le_of_ble_eq_true rfl) ?_
  unfold F_W_tale
  refine mj_L (L' := [(0, .ref 0), (1, .int x1), (2, .int x2)]) [0, 1, 2] rfl ?_
  refine mj_aload_n (pc := 0) (i := 0) rfl dd_W_tale_0 ?_
  refine mj_getR (pc := 1) (b := 0) (k := 4) qf_W_42 sh_0 cl_11 rfl (by decide) (r := 13) rfl dd_W_tale_1 ?_
  refine mj_iload_n (pc := 4) (i := 1) rfl dd_W_tale_4 ?_
  refine mj_callVI (pc := 5) (idx := 163) (b := 13) (As := [.int x1]) (st := []) sh_13 cl_0 ev_Coast_hasTale ql_W_163 rfl (Nat.le_of_ble_eq_true rfl) (T_Coast_hasTale (g := g) e (by omega) x1 M) dd_W_tale_5 (fun q1 hq1 => ?_)
  refine mj_if_eq (pc := 8) (tgt := 20) dd_W_tale_8 rfl (fun h2 => ?_) (fun h2 => ?_)
  · refine mj_L (L' := []) [] rfl ?_
    exact T_W_tale_b20 (g := g) e he q1.2
  · refine mj_iload_n (pc := 11) (i := 2) rfl dd_W_tale_11 ?_
    refine mj_if_lt (pc := 12) (tgt := 20) dd_W_tale_12 rfl (fun h3 => ?_) (fun h3 => ?_)
    · refine mj_L (L' := []) [] rfl ?_
      exact T_W_tale_b20 (g := g) e he q1.2
    · refine mj_iload_n (pc := 15) (i := 2) rfl dd_W_tale_15 ?_
      refine mj_iconst (pc := 16) (v := (3 : Int32)) (by decide) dd_W_tale_16 ?_
      refine mj_icmp_le (pc := 17) (tgt := 28) dd_W_tale_17 rfl (fun h4 => ?_) (fun h4 => ?_)
      · refine mj_L (L' := [(0, .ref 0), (1, .int x1), (2, .int x2)]) [0, 1, 2] rfl ?_
        exact T_W_tale_b28 (g := g) e he x1 x2 q1.2
      · refine mj_L (L' := []) [] rfl ?_
        exact T_W_tale_b20 (g := g) e he q1.2
