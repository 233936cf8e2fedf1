/-! ===== functions and their proofs ===== -/
def F_Stays_worthWithoutLaw_b24 (x1 : Int32) (x2 : Int32) (x3 : Int32) (x4 : Int32) (s0 : Int32) (M : mj_M) : Option (Int32 × mj_M) :=
    mj_ck x1 6 (
     mj_ck x2 6 (
     some ((((s0 + x4) + ((M 15 x1.toNatClampNeg) / (3 : Int32))) + ((2 : Int32) * (M 19 x2.toNatClampNeg))) - x3, M)))
set_option maxRecDepth 20000 in
theorem T_Stays_worthWithoutLaw_b24 {g : mj_G} (e : Nat) (he : 0 ≤ e) (x1 : Int32) (x2 : Int32) (x3 : Int32) (x4 : Int32) (s0 : Int32) (M : mj_M) : mj_X g (mj_qI g) "WinterTellers$Stays" c_Stays_worthWithoutLaw 6 (some .int) e 24 [(0, .ref 28), (1, .int x1), (2, .int x2), (3, .int x3), (4, .int x4)] [.int s0] M (F_Stays_worthWithoutLaw_b24 x1 x2 x3 x4 s0 M) := by
  unfold F_Stays_worthWithoutLaw_b24
  refine mj_istore (pc := 24) (by decide) dd_Stays_worthWithoutLaw_24 ?_
  refine mj_L (L' := [(5, .int s0), (0, .ref 28), (1, .int x1), (2, .int x2), (3, .int x3), (4, .int x4)]) [0, 1, 2, 3, 4, 5] rfl ?_
  refine mj_iload (pc := 26) (i := 5) rfl dd_Stays_worthWithoutLaw_26 ?_
  refine mj_iload (pc := 28) (i := 4) rfl dd_Stays_worthWithoutLaw_28 ?_
  refine mj_iadd (pc := 30) dd_Stays_worthWithoutLaw_30 ?_
  refine mj_aload_n (pc := 31) (i := 0) rfl dd_Stays_worthWithoutLaw_31 ?_
  refine mj_getR (pc := 32) (b := 28) (k := 0) qf_Stays_9 sh_28 cl_9 rfl (by decide) (r := 13) rfl dd_Stays_worthWithoutLaw_32 ?_
  refine mj_getR (pc := 35) (b := 13) (k := 7) qf_Stays_55 sh_13 cl_0 rfl (by decide) (r := 15) rfl dd_Stays_worthWithoutLaw_35 ?_
  refine mj_iload_n (pc := 38) (i := 1) rfl dd_Stays_worthWithoutLaw_38 ?_
  refine mj_iald (pc := 39) sh_15 dd_Stays_worthWithoutLaw_39 ?_
  refine mj_iconst (pc := 40) (v := (3 : Int32)) (by decide) dd_Stays_worthWithoutLaw_40 ?_
  refine mj_idivK (pc := 41) (by decide) dd_Stays_worthWithoutLaw_41 ?_
  refine mj_iadd (pc := 42) dd_Stays_worthWithoutLaw_42 ?_
  refine mj_iconst (pc := 43) (v := (2 : Int32)) (by decide) dd_Stays_worthWithoutLaw_43 ?_
  refine mj_aload_n (pc := 44) (i := 0) rfl dd_Stays_worthWithoutLaw_44 ?_
  refine mj_getR (pc := 45) (b := 28) (k := 0) qf_Stays_9 sh_28 cl_9 rfl (by decide) (r := 13) rfl dd_Stays_worthWithoutLaw_45 ?_
  refine mj_getR (pc := 48) (b := 13) (k := 11) qf_Stays_61 sh_13 cl_0 rfl (by decide) (r := 19) rfl dd_Stays_worthWithoutLaw_48 ?_
  refine mj_iload_n (pc := 51) (i := 2) rfl dd_Stays_worthWithoutLaw_51 ?_
  refine mj_iald (pc := 52) sh_19 dd_Stays_worthWithoutLaw_52 ?_
  refine mj_imul (pc := 53) dd_Stays_worthWithoutLaw_53 ?_
  refine mj_iadd (pc := 54) dd_Stays_worthWithoutLaw_54 ?_
  refine mj_iload_n (pc := 55) (i := 3) rfl dd_Stays_worthWithoutLaw_55 ?_
  refine mj_isub (pc := 56) dd_Stays_worthWithoutLaw_56 ?_
  exact mj_iret dd_Stays_worthWithoutLaw_57 rfl rfl
def F_Stays_worthWithoutLaw (x1 : Int32) (x2 : Int32) (x3 : Int32) (x4 : Int32) (M : mj_M) : Option (Int32 × mj_M) :=
    if (M 13 5) ≤ x3 then
     (F_Stays_worthWithoutLaw_b24 x1 x2 x3 x4 (0 : Int32) M)
     else
     (mj_ck x2 6 (
     F_Stays_worthWithoutLaw_b24 x1 x2 x3 x4 (M 17 x2.toNatClampNeg) M))
set_option maxRecDepth 20000 in
theorem T_Stays_worthWithoutLaw {g : mj_G} : ∀ d, 1 ≤ d → ∀ (x1 : Int32) (x2 : Int32) (x3 : Int32) (x4 : Int32) (M : mj_M), mj_Mt g (mj_qI g) d y_Stays_worthWithoutLaw c_Stays_worthWithoutLaw 6 (some .int) [.ref 28, .int x1, .int x2, .int x3, .int x4] M (F_Stays_worthWithoutLaw x1 x2 x3 x4 M) := by
  intro d hd x1 x2 x3 x4 M
  obtain ⟨e, rfl⟩ : ∃ e, d = e + 1 := ⟨d - 1, by omega⟩
  have he : 0 ≤ e := by omega
  refine mj_met (by decide +kernel) (Nat.le_of_ble_eq_true rfl) ?_
  unfold F_Stays_worthWithoutLaw
  refine mj_L (L' := [(0, .ref 28), (1, .int x1), (2, .int x2), (3, .int x3), (4, .int x4)]) [0, 1, 2, 3, 4] rfl ?_
  refine mj_iload_n (pc := 0) (i := 3) rfl dd_Stays_worthWithoutLaw_0 ?_
  refine mj_aload_n (pc := 1) (i := 0) rfl dd_Stays_worthWithoutLaw_1 ?_
  refine mj_getR (pc := 2) (b := 28) (k := 0) qf_Stays_9 sh_28 cl_9 rfl (by decide) (r := 13) rfl dd_Stays_worthWithoutLaw_2 ?_
  refine mj_getI (pc := 5) (b := 13) (k := 5) qf_Stays_84 sh_13 cl_0 rfl (by decide) rfl dd_Stays_worthWithoutLaw_5 ?_
  refine mj_icmp_ge (pc := 8) (tgt := 23) dd_Stays_worthWithoutLaw_8 rfl (fun h1 => ?_) (fun h1 => ?_)
  · refine mj_iconst (pc := 23) (v := (0 : Int32)) (by decide) dd_Stays_worthWithoutLaw_23 ?_
    refine mj_L (L' := [(0, .ref 28), (1, .int x1), (2, .int x2), (3, .int x3), (4, .int x4)]) [0, 1, 2, 3, 4] rfl ?_
    exact T_Stays_worthWithoutLaw_b24 (g := g) e he x1 x2 x3 x4 (0 : Int32) M
  · refine mj_aload_n (pc := 11) (i := 0) rfl dd_Stays_worthWithoutLaw_11 ?_
    refine mj_getR (pc := 12) (b := 28) (k := 0) qf_Stays_9 sh_28 cl_9 rfl (by decide) (r := 13) rfl dd_Stays_worthWithoutLaw_12 ?_
    refine mj_getR (pc := 15) (b := 13) (k := 9) qf_Stays_52 sh_13 cl_0 rfl (by decide) (r := 17) rfl dd_Stays_worthWithoutLaw_15 ?_
    refine mj_iload_n (pc := 18) (i := 2) rfl dd_Stays_worthWithoutLaw_18 ?_
    refine mj_iald (pc := 19) sh_17 dd_Stays_worthWithoutLaw_19 ?_
    refine mj_goto (pc := 20) (tgt := 24) dd_Stays_worthWithoutLaw_20 rfl ?_
    refine mj_L (L' := [(0, .ref 28), (1, .int x1), (2, .int x2), (3, .int x3), (4, .int x4)]) [0, 1, 2, 3, 4] rfl ?_
    exact T_Stays_worthWithoutLaw_b24 (g := g) e he x1 x2 x3 x4 (M 17 x2.toNatClampNeg) M
def F_Stays_by_b123 (N : Nat) (s0 : Int32) (M : mj_M) : Option (Int32 × mj_M) :=
    some (mj_max (0 : Int32) (mj_min s0 (20 : Int32)), M)
set_option maxRecDepth 20000 in
theorem T_Stays_by_b123 {g : mj_G} (N : Nat) (e : Nat) (he : 3 ≤ e) (s0 : Int32) (M : mj_M) : mj_X g (mj_qI g) "WinterTellers$Stays" c_Stays_by 6 (some .int) e 123 [] [.int s0] M (F_Stays_by_b123 N s0 M) := by
  unfold F_Stays_by_b123
  refine mj_istore (pc := 123) (by decide) dd_Stays_by_123 ?_
  refine mj_L (L' := [(5, .int s0)]) [0] rfl ?_
  refine mj_iconst (pc := 125) (v := (0 : Int32)) (by decide) dd_Stays_by_125 ?_
  refine mj_iload (pc := 126) (i := 5) rfl dd_Stays_by_126 ?_
  refine mj_bipush (pc := 128) (v := (20 : Int32)) (by decide) dd_Stays_by_128 ?_
  refine mj_mmin (pc := 130) (idx := 75) qm_Stays_75 (Nat.le_of_ble_eq_true rfl) dd_Stays_by_130 ?_
  refine mj_mmax (pc := 133) (idx := 81) qm_Stays_81 (Nat.le_of_ble_eq_true rfl) dd_Stays_by_133 ?_
  exact mj_iret dd_Stays_by_136 rfl rfl
def F_Stays_by (N : Nat) (x1 : Int32) (x2 : Int32) (x3 : Int32) (x4 : Int32) (M : mj_M) : Option (Int32 × mj_M) :=
    mj_ck x2 6 (
     mj_lt (mj_u M 9 0 (M 17 x2.toNatClampNeg)) (fun M1 =>
     mj_lt (mj_u M1 9 1 x4) (fun M2 =>
     mj_ck x1 6 (
     mj_lt (mj_u M2 9 2 (M2 15 x1.toNatClampNeg)) (fun M3 =>
     mj_lt (mj_u M3 9 3 x3) (fun M4 =>
     mj_ck x1 6 (
     mj_lt (mj_u M4 9 4 (M4 16 x1.toNatClampNeg)) (fun M5 =>
     mj_ck x2 6 (
     mj_lt (mj_u M5 9 5 (M5 19 x2.toNatClampNeg)) (fun M6 =>
     if (M6 8 1) = (-1 : Int32) then
     ((F_Stays_worthWithoutLaw x1 x2 x3 x4 M6).bind (fun q9 =>
     F_Stays_by_b123 N q9.1 q9.2))
     else
     ((F_Laws_worth N M6).bind (fun q8 =>
     F_Stays_by_b123 N q8.1 q8.2))))))))))))
set_option maxRecDepth 20000 in
theorem T_Stays_by {g : mj_G} (N : Nat) : ∀ d, 4 ≤ d → ∀ (x1 : Int32) (x2 : Int32) (x3 : Int32) (x4 : Int32) (M : mj_M), mj_Mt g (mj_qI g) d y_Stays_by c_Stays_by 6 (some .int) [.ref 28, .int x1, .int x2, .int x3, .int x4] M (F_Stays_by N x1 x2 x3 x4 M) := by
  intro d hd x1 x2 x3 x4 M
  obtain ⟨e, rfl⟩ : ∃ e, d = e + 1 := ⟨d - 1, by omega⟩
  have he : 3 ≤ e := by omega
  refine mj_met (by decide +kernel) (Nat.le_of_ble_eq_true rfl) ?_
  unfold F_Stays_by
  refine mj_L (L' := [(0, .ref 28), (1, .int x1), (2, .int x2), (3, .int x3), (4, .int x4)]) [0, 1, 2, 3, 4] rfl ?_
  refine mj_aload_n (pc := 0) (i := 0) rfl dd_Stays_by_0 ?_
  refine mj_getR (pc := 1) (b := 28) (k := 2) qf_Stays_19 sh_28 cl_9 rfl (by decide) (r := 8) rfl dd_Stays_by_1 ?_
  refine mj_getR (pc := 4) (b := 8) (k := 2) qf_Stays_47 sh_8 cl_5 rfl (by decide) (r := 9) rfl dd_Stays_by_4 ?_
  refine mj_iconst (pc := 7) (v := (0 : Int32)) (by decide) dd_Stays_by_7 ?_
  refine mj_aload_n (pc := 8) (i := 0) rfl dd_Stays_by_8 ?_
  refine mj_getR (pc := 9) (b := 28) (k := 0) qf_Stays_9 sh_28 cl_9 rfl (by decide) (r := 13) rfl dd_Stays_by_9 ?_
  refine mj_getR (pc := 12) (b := 13) (k := 9) qf_Stays_52 sh_13 cl_0 rfl (by decide) (r := 17) rfl dd_Stays_by_12 ?_
  refine mj_iload_n (pc := 15) (i := 2) rfl dd_Stays_by_15 ?_
  refine mj_iald (pc := 16) sh_17 dd_Stays_by_16 ?_
  refine mj_iastK (pc := 17) (j := 0) sh_9 (by decide) rfl dd_Stays_by_17 (fun M1 _ => ?_)
  refine mj_aload_n (pc := 18) (i := 0) rfl dd_Stays_by_18 ?_
  refine mj_getR (pc := 19) (b := 28) (k := 2) qf_Stays_19 sh_28 cl_9 rfl (by decide) (r := 8) rfl dd_Stays_by_19 ?_
  refine mj_getR (pc := 22) (b := 8) (k := 2) qf_Stays_47 sh_8 cl_5 rfl (by decide) (r := 9) rfl dd_Stays_by_22 ?_
  refine mj_iconst (pc := 25) (v := (1 : Int32)) (by decide) dd_Stays_by_25 ?_
  refine mj_iload (pc := 26) (i := 4) rfl dd_Stays_by_26 ?_
  refine mj_iastK (pc := 28) (j := 1) sh_9 (by decide) rfl dd_Stays_by_28 (fun M2 _ => ?_)
  refine mj_aload_n (pc := 29) (i := 0) rfl dd_Stays_by_29 ?_
  refine mj_getR (pc := 30) (b := 28) (k := 2) qf_Stays_19 sh_28 cl_9 rfl (by decide) (r := 8) rfl dd_Stays_by_30 ?_
  refine mj_getR (pc := 33) (b := 8) (k := 2) qf_Stays_47 sh_8 cl_5 rfl (by decide) (r := 9) rfl dd_Stays_by_33 ?_
  refine mj_iconst (pc := 36) (v := (2 : Int32)) (by decide) dd_Stays_by_36 ?_
  refine mj_aload_n (pc := 37) (i := 0) rfl dd_Stays_by_37 ?_
  refine mj_getR (pc := 38) (b := 28) (k := 0) qf_Stays_9 sh_28 cl_9 rfl (by decide) (r := 13) rfl dd_Stays_by_38 ?_
  refine mj_getR (pc := 41) (b := 13) (k := 7) qf_Stays_55 sh_13 cl_0 rfl (by decide) (r := 15) rfl dd_Stays_by_41 ?_
  refine mj_iload_n (pc := 44) (i := 1) rfl dd_Stays_by_44 ?_
  refine mj_iald (pc := 45) sh_15 dd_Stays_by_45 ?_
  refine mj_iastK (pc := 46) (j := 2) sh_9 (by decide) rfl dd_Stays_by_46 (fun M3 _ => ?_)
  refine mj_aload_n (pc := 47) (i := 0) rfl dd_Stays_by_47 ?_
  refine mj_getR (pc := 48) (b := 28) (k := 2) qf_Stays_19 sh_28 cl_9 rfl (by decide) (r := 8) rfl dd_Stays_by_48 ?_
  refine mj_getR (pc := 51) (b := 8) (k := 2) qf_Stays_47 sh_8 cl_5 rfl (by decide) (r := 9) rfl dd_Stays_by_51 ?_
  refine mj_iconst (pc := 54) (v := (3 : Int32)) (by decide) dd_Stays_by_54 ?_
  refine mj_iload_n (pc := 55) (i := 3) rfl dd_Stays_by_55 ?_
  refine mj_iastK (pc := 56) (j := 3) sh_9 (by decide) rfl dd_Stays_by_56 (fun M4 _ => ?_)
  refine mj_aload_n (pc := 57) (i := 0) rfl dd_Stays_by_57 ?_
  refine mj_getR (pc := 58) (b := 28) (k := 2) qf_Stays_19 sh_28 cl_9 rfl (by decide) (r := 8) rfl dd_Stays_by_58 ?_
  refine mj_getR (pc := 61) (b := 8) (k := 2) qf_Stays_47 sh_8 cl_5 rfl (by decide) (r := 9) rfl dd_Stays_by_61 ?_
  refine mj_iconst (pc := 64) (v := (4 : Int32)) (by decide) dd_Stays_by_64 ?_
  refine mj_aload_n (pc := 65) (i := 0) rfl dd_Stays_by_65 ?_
  refine mj_getR (pc := 66) (b := 28) (k := 0) qf_Stays_9 sh_28 cl_9 rfl (by decide) (r := 13) rfl dd_Stays_by_66 ?_
  refine mj_getR (pc := 69) (b := 13) (k := 8) qf_Stays_58 sh_13 cl_0 rfl (by decide) (r := 16) rfl dd_Stays_by_69 ?_
  refine mj_iload_n (pc := 72) (i := 1) rfl dd_Stays_by_72 ?_
  refine mj_iald (pc := 73) sh_16 dd_Stays_by_73 ?_
  refine mj_iastK (pc := 74) (j := 4) sh_9 (by decide) rfl dd_Stays_by_74 (fun M5 _ => ?_)
  refine mj_aload_n (pc := 75) (i := 0) rfl dd_Stays_by_75 ?_
  refine mj_getR (pc := 76) (b := 28) (k := 2) qf_Stays_19 sh_28 cl_9 rfl (by decide) (r := 8) rfl dd_Stays_by_76 ?_
  refine mj_getR (pc := 79) (b := 8) (k := 2) qf_Stays_47 sh_8 cl_5 rfl (by decide) (r := 9) rfl dd_Stays_by_79 ?_
  refine mj_iconst (pc := 82) (v := (5 : Int32)) (by decide) dd_Stays_by_82 ?_
  refine mj_aload_n (pc := 83) (i := 0) rfl dd_Stays_by_83 ?_
  refine mj_getR (pc := 84) (b := 28) (k := 0) qf_Stays_9 sh_28 cl_9 rfl (by decide) (r := 13) rfl dd_Stays_by_84 ?_
  refine mj_getR (pc := 87) (b := 13) (k := 11) qf_Stays_61 sh_13 cl_0 rfl (by decide) (r := 19) rfl dd_Stays_by_87 ?_
  refine mj_iload_n (pc := 90) (i := 2) rfl dd_Stays_by_90 ?_
  refine mj_iald (pc := 91) sh_19 dd_Stays_by_91 ?_
  refine mj_iastK (pc := 92) (j := 5) sh_9 (by decide) rfl dd_Stays_by_92 (fun M6 _ => ?_)
  refine mj_aload_n (pc := 93) (i := 0) rfl dd_Stays_by_93 ?_
  refine mj_getR (pc := 94) (b := 28) (k := 2) qf_Stays_19 sh_28 cl_9 rfl (by decide) (r := 8) rfl dd_Stays_by_94 ?_
  refine mj_getI (pc := 97) (b := 8) (k := 1) qf_Stays_64 sh_8 cl_5 rfl (by decide) rfl dd_Stays_by_97 ?_
  refine mj_iconst (pc := 100) (v := (-1 : Int32)) (by decide) dd_Stays_by_100 ?_
  refine mj_icmp_ne (pc := 101) (tgt := 116) dd_Stays_by_101 rfl (fun h7 => ?_) (fun h7 => ?_)
  · refine mj_aload_n (pc := 104) (i := 0) rfl dd_Stays_by_104 ?_
    refine mj_iload_n (pc := 105) (i := 1) rfl dd_Stays_by_105 ?_
    refine mj_iload_n (pc := 106) (i := 2) rfl dd_Stays_by_106 ?_
    refine mj_iload_n (pc := 107) (i := 3) rfl dd_Stays_by_107 ?_
    refine mj_iload (pc := 108) (i := 4) rfl dd_Stays_by_108 ?_
    refine mj_callVI (pc := 110) (idx := 68) (b := 28) (As := [.int x1, .int x2, .int x3, .int x4]) (st := []) sh_28 cl_9 ev_Stays_worthWithoutLaw ql_Stays_68 rfl (Nat.le_of_ble_eq_true rfl) (T_Stays_worthWithoutLaw (g := g) e (by omega) x1 x2 x3 x4 M6) dd_Stays_by_110 (fun q9 hq9 => ?_)
    refine mj_goto (pc := 113) (tgt := 123) dd_Stays_by_113 rfl ?_
    refine mj_L (L' := []) [] rfl ?_
    exact T_Stays_by_b123 (g := g) N e he q9.1 q9.2
  · refine mj_aload_n (pc := 116) (i := 0) rfl dd_Stays_by_116 ?_
    refine mj_getR (pc := 117) (b := 28) (k := 2) qf_Stays_19 sh_28 cl_9 rfl (by decide) (r := 8) rfl dd_Stays_by_117 ?_
    refine mj_callVI (pc := 120) (idx := 71) (b := 8) (As := []) (st := []) sh_8 cl_5 ev_Laws_worth ql_Stays_71 rfl (Nat.le_of_ble_eq_true rfl) (T_Laws_worth (g := g) N e (by omega) M6) dd_Stays_by_120 (fun q8 hq8 => ?_)
    refine mj_L (L' := []) [] rfl ?_
    exact T_Stays_by_b123 (g := g) N e he q8.1 q8.2
def F_Stays_now (N : Nat) (x1 : Int32) (x2 : Int32) (M : mj_M) : Option (Int32 × mj_M) :=
    mj_ck ((x1 * (6 : Int32)) + x2) 36 (
     mj_ck x2 6 (
     (F_Stays_by N x1 x2 (M 22 ((x1 * (6 : Int32)) + x2).toNatClampNeg) (M 21 x2.toNatClampNeg) M).bind (fun q1 =>
     some (q1.1, q1.2))))
set_option maxRecDepth 20000 in
theorem T_Stays_now {g : mj_G} (N : Nat) : ∀ d, 5 ≤ d → ∀ (x1 : Int32) (x2 : Int32) (M : mj_M), mj_Mt g (mj_qI g) d y_Stays_now c_Stays_now 3 (some .int) [.ref 28, .int x1, .int x2] M (F_Stays_now N x1 x2 M) := by
  intro d hd x1 x2 M
  obtain ⟨e, rfl⟩ : ∃ e, d = e + 1 := ⟨d - 1, by omega⟩
  have he : 4 ≤ e := by omega
  refine mj_met (by decide +kernel) (Nat.le_of_ble_eq_true rfl) ?_
  unfold F_Stays_now
  refine mj_L (L' := [(0, .ref 28), (1, .int x1), (2, .int x2)]) [0, 1, 2] rfl ?_
  refine mj_aload_n (pc := 0) (i := 0) rfl dd_Stays_now_0 ?_
  refine mj_iload_n (pc := 1) (i := 1) rfl dd_Stays_now_1 ?_
  refine mj_iload_n (pc := 2) (i := 2) rfl dd_Stays_now_2 ?_
  refine mj_aload_n (pc := 3) (i := 0) rfl dd_Stays_now_3 ?_
  refine mj_getR (pc := 4) (b := 28) (k := 1) qf_Stays_15 sh_28 cl_9 rfl (by decide) (r := 20) rfl dd_Stays_now_4 ?_
  refine mj_getR (pc := 7) (b := 20) (k := 8) qf_Stays_23 sh_20 cl_8 rfl (by decide) (r := 22) rfl dd_Stays_now_7 ?_
  refine mj_iload_n (pc := 10) (i := 1) rfl dd_Stays_now_10 ?_
  refine mj_bipush (pc := 11) (v := (6 : Int32)) (by decide) dd_Stays_now_11 ?_
  refine mj_imul (pc := 13) dd_Stays_now_13 ?_
  refine mj_iload_n (pc := 14) (i := 2) rfl dd_Stays_now_14 ?_
  refine mj_iadd (pc := 15) dd_Stays_now_15 ?_
  refine mj_iald (pc := 16) sh_22 dd_Stays_now_16 ?_
  refine mj_aload_n (pc := 17) (i := 0) rfl dd_Stays_now_17 ?_
  refine mj_getR (pc := 18) (b := 28) (k := 1) qf_Stays_15 sh_28 cl_9 rfl (by decide) (r := 20) rfl dd_Stays_now_18 ?_
  refine mj_getR (pc := 21) (b := 20) (k := 7) qf_Stays_29 sh_20 cl_8 rfl (by decide) (r := 21) rfl dd_Stays_now_21 ?_
  refine mj_iload_n (pc := 24) (i := 2) rfl dd_Stays_now_24 ?_
  refine mj_iald (pc := 25) sh_21 dd_Stays_now_25 ?_
  refine mj_callVI (pc := 26) (idx := 32) (b := 28) (As := [.int x1, .int x2, .int (M 22 ((x1 * (6 : Int32)) + x2).toNatClampNeg), .int (M 21 x2.toNatClampNeg)]) (st := []) sh_28 cl_9 ev_Stays_by ql_Stays_32 rfl (Nat.le_of_ble_eq_true rfl) (T_Stays_by (g := g) N e (by omega) x1 x2 (M 22 ((x1 * (6 : Int32)) + x2).toNatClampNeg) (M 21 x2.toNatClampNeg) M) dd_Stays_now_26 (fun q1 hq1 => ?_)
  exact mj_iret dd_Stays_now_29 rfl rfl
def F_W_nights (N : Nat) (x1 : Int32) (x2 : Int32) (M : mj_M) : Option (Int32 × mj_M) :=
    (F_Coast_hasBoth x1 x2 M).bind (fun q1 =>
     if q1.1 = (0) then
     (some ((-1 : Int32), q1.2))
     else
     ((F_Stays_now N x1 x2 q1.2).bind (fun q3 =>
     some (q3.1, q3.2))))
set_option maxRecDepth 20000 in
theorem T_W_nights {g : mj_G} (N : Nat) : ∀ d, 6 ≤ d → ∀ (x1 : Int32) (x2 : Int32) (M : mj_M), mj_Mt g (mj_qI g) d y_W_nights c_W_nights 3 (some .int) [.ref 0, .int x1, .int x2] M (F_W_nights N x1 x2 M) := by
  intro d hd x1 x2 M
  obtain ⟨e, rfl⟩ : ∃ e, d = e + 1 := ⟨d - 1, by omega⟩
  have he : 5 ≤ e := by omega
  refine mj_met (by decide +kernel) (Nat.le_of_ble_eq_true rfl) ?_
  unfold F_W_nights
  refine mj_L (L' := [(0, .ref 0), (1, .int x1), (2, .int x2)]) [0, 1, 2] rfl ?_
  refine mj_aload_n (pc := 0) (i := 0) rfl dd_W_nights_0 ?_
  refine mj_getR (pc := 1) (b := 0) (k := 4) qf_W_42 sh_0 cl_11 rfl (by decide) (r := 13) rfl dd_W_nights_1 ?_
  refine mj_iload_n (pc := 4) (i := 1) rfl dd_W_nights_4 ?_
  refine mj_iload_n (pc := 5) (i := 2) rfl dd_W_nights_5 ?_
  refine mj_callVI (pc := 6) (idx := 181) (b := 13) (As := [.int x1, .int x2]) (st := []) sh_13 cl_0 ev_Coast_hasBoth ql_W_181 rfl (Nat.le_of_ble_eq_true rfl) (T_Coast_hasBoth (g := g) e (by omega) x1 x2 M) dd_W_nights_6 (fun q1 hq1 => ?_)
  refine mj_if_eq (pc := 9) (tgt := 24) dd_W_nights_9 rfl (fun h2 => ?_) (fun h2 => ?_)
  · refine mj_iconst (pc := 24) (v := (-1 : Int32)) (by decide) dd_W_nights_24 ?_
    exact mj_iret dd_W_nights_25 rfl rfl
  · refine mj_aload_n (pc := 12) (i := 0) rfl dd_W_nights_12 ?_
    refine mj_getR (pc := 13) (b := 0) (k := 7) qf_W_65 sh_0 cl_11 rfl (by decide) (r := 28) rfl dd_W_nights_13 ?_
    refine mj_iload_n (pc := 16) (i := 1) rfl dd_W_nights_16 ?_
    refine mj_iload_n (pc := 17) (i := 2) rfl dd_W_nights_17 ?_
    refine mj_callVI (pc := 18) (idx := 188) (b := 28) (As := [.int x1, .int x2]) (st := []) sh_28 cl_9 ev_Stays_now ql_W_188 rfl (Nat.le_of_ble_eq_true rfl) (T_Stays_now (g := g) N e (by omega) x1 x2 q1.2) dd_W_nights_18 (fun q3 hq3 => ?_)
    refine mj_goto (pc := 21) (tgt := 25) dd_W_nights_21 rfl ?_
    exact mj_iret dd_W_nights_25 rfl rfl
def F_M_bounded (x0 : Int64) (M : mj_M) : Option (Int32 × mj_M) :=
    some ((mj_lmax (-1000000 : Int64) (mj_lmin (1000000 : Int64) x0)).toInt32, M)
set_option maxRecDepth 20000 in
theorem T_M_bounded {g : mj_G} : ∀ d, 1 ≤ d → ∀ (x0 : Int64) (M : mj_M), mj_Mt g (mj_qI g) d y_M_bounded c_M_bounded 2 (some .int) [.long x0] M (F_M_bounded x0 M) := by
  intro d hd x0 M
  obtain ⟨e, rfl⟩ : ∃ e, d = e + 1 := ⟨d - 1, by omega⟩
  have he : 0 ≤ e := by omega
  refine mj_met (by decide +kernel) (Nat.le_of_ble_eq_true rfl) ?_
  unfold F_M_bounded
  refine mj_L (L' := [(0, .long x0)]) [0] rfl ?_
  refine mj_ldc2 (pc := 0) qd_M_180 dd_M_bounded_0 ?_
  refine mj_ldc2 (pc := 3) qd_M_182 dd_M_bounded_3 ?_
  refine mj_lload_n (pc := 6) (i := 0) rfl dd_M_bounded_6 ?_
  refine mj_mlmin (pc := 7) (idx := 184) qm_M_184 (Nat.le_of_ble_eq_true rfl) dd_M_bounded_7 ?_
  refine mj_mlmax (pc := 10) (idx := 190) qm_M_190 (Nat.le_of_ble_eq_true rfl) dd_M_bounded_10 ?_
  refine mj_l2i (pc := 13) dd_M_bounded_13 ?_
  exact mj_iret dd_M_bounded_14 rfl rfl
def F_M_worked (x0 : Int32) (x1 : Int64) (x3 : Int64) (M : mj_M) : Option (Int32 × mj_M) :=
    if x0 = (2 : Int32) then
     ((F_M_bounded (x1 + x3) M).bind (fun q2 =>
     some (q2.1, q2.2)))
     else
     (if x0 = (3 : Int32) then
     ((F_M_bounded (x1 - x3) M).bind (fun q4 =>
     some (q4.1, q4.2)))
     else
     (if x0 = (4 : Int32) then
     ((F_M_bounded (x1 * x3) M).bind (fun q6 =>
     some (q6.1, q6.2)))
     else
     (if x0 = (5 : Int32) then
     (if (lg_cmp x3 (0 : Int64)) = (0) then
     (some ((0 : Int32), M))
     else
     (if x3 = 0 then none else
     (F_M_bounded (x1 / x3) M).bind (fun q9 =>
     some (q9.1, q9.2))))
     else
     (if x0 = (6 : Int32) then
     (if (lg_cmp x1 x3) = (0) then
     (some ((1 : Int32), M))
     else
     (some ((0 : Int32), M)))
     else
     (if x0 = (7 : Int32) then
     (if (0) ≤ (lg_cmp x1 x3) then
     (some ((0 : Int32), M))
     else
     (some ((1 : Int32), M)))
     else
     (if x0 = (8 : Int32) then
     (if (lg_cmp x1 x3) ≤ (0) then
     (some ((0 : Int32), M))
     else
     (some ((1 : Int32), M)))
     else
     (if x0 = (10 : Int32) then
     (if (lg_cmp x1 (0 : Int64)) = (0) then
     (some ((0 : Int32), M))
     else
     (if (lg_cmp x3 (0 : Int64)) = (0) then
     (some ((0 : Int32), M))
     else
     (some ((1 : Int32), M))))
     else
     (if (lg_cmp x1 (0 : Int64)) = (0) then
     (if (lg_cmp x3 (0 : Int64)) = (0) then
     (some ((0 : Int32), M))
     else
     (some ((1 : Int32), M)))
     else
     (some ((1 : Int32), M))))))))))
set_option maxRecDepth 20000 in
theorem T_M_worked {g : mj_G} : ∀ d, 2 ≤ d → ∀ (x0 : Int32) (x1 : Int64) (x3 : Int64) (M : mj_M), mj_Mt g (mj_qI g) d y_M_worked c_M_worked 5 (some .int) [.int x0, .long x1, .long x3] M (F_M_worked x0 x1 x3 M) := by
  intro d hd x0 x1 x3 M
  obtain ⟨e, rfl⟩ : ∃ e, d = e + 1 := ⟨d - 1, by omega⟩
  have he : 1 ≤ e := by omega
  refine mj_met (by decide +kernel) (Nat.le_of_ble_eq_true rfl) ?_
  unfold F_M_worked
  refine mj_L (L' := [(0, .int x0), (1, .long x1), (3, .long x3)]) [0, 1, 2] rfl ?_
  refine mj_iload_n (pc := 0) (i := 0) rfl dd_M_worked_0 ?_
  refine mj_ife (fun h1 => ?_) (fun h1 => ?_)
  · refine mj_tswK (pc := 1) (tgt := 52) (k := (2 : Int32)) (off := 51) h1 dd_M_worked_1 (by decide) (by decide) rfl rfl ?_
    refine mj_lload_n (pc := 52) (i := 1) rfl dd_M_worked_52 ?_
    refine mj_lload_n (pc := 53) (i := 3) rfl dd_M_worked_53 ?_
    refine mj_ladd (pc := 54) dd_M_worked_54 ?_
    refine mj_callSI (pc := 55) (idx := 193) (As := [.long (x1 + x3)]) (st := []) es_M_bounded ql_M_193 rfl (Nat.le_of_ble_eq_true rfl) (T_M_bounded (g := g) e (by omega) (x1 + x3) M) dd_M_worked_55 (fun q2 hq2 => ?_)
    exact mj_iret dd_M_worked_58 rfl rfl
  · refine mj_ife (fun h3 => ?_) (fun h3 => ?_)
    · refine mj_tswK (pc := 1) (tgt := 59) (k := (3 : Int32)) (off := 58) h3 dd_M_worked_1 (by decide) (by decide) rfl rfl ?_
      refine mj_lload_n (pc := 59) (i := 1) rfl dd_M_worked_59 ?_
      refine mj_lload_n (pc := 60) (i := 3) rfl dd_M_worked_60 ?_
      refine mj_lsub (pc := 61) dd_M_worked_61 ?_
      refine mj_callSI (pc := 62) (idx := 193) (As := [.long (x1 - x3)]) (st := []) es_M_bounded ql_M_193 rfl (Nat.le_of_ble_eq_true rfl) (T_M_bounded (g := g) e (by omega) (x1 - x3) M) dd_M_worked_62 (fun q4 hq4 => ?_)
      exact mj_iret dd_M_worked_65 rfl rfl
    · refine mj_ife (fun h5 => ?_) (fun h5 => ?_)
      · refine mj_tswK (pc := 1) (tgt := 66) (k := (4 : Int32)) (off := 65) h5 dd_M_worked_1 (by decide) (by decide) rfl rfl ?_
        refine mj_lload_n (pc := 66) (i := 1) rfl dd_M_worked_66 ?_
        refine mj_lload_n (pc := 67) (i := 3) rfl dd_M_worked_67 ?_
        refine mj_lmul (pc := 68) dd_M_worked_68 ?_
        refine mj_callSI (pc := 69) (idx := 193) (As := [.long (x1 * x3)]) (st := []) es_M_bounded ql_M_193 rfl (Nat.le_of_ble_eq_true rfl) (T_M_bounded (g := g) e (by omega) (x1 * x3) M) dd_M_worked_69 (fun q6 hq6 => ?_)
        exact mj_iret dd_M_worked_72 rfl rfl
      · refine mj_ife (fun h7 => ?_) (fun h7 => ?_)
        · refine mj_tswK (pc := 1) (tgt := 73) (k := (5 : Int32)) (off := 72) h7 dd_M_worked_1 (by decide) (by decide) rfl rfl ?_
          refine mj_lload_n (pc := 73) (i := 3) rfl dd_M_worked_73 ?_
          refine mj_lconst (pc := 74) (v := (0 : Int64)) (by decide) dd_M_worked_74 ?_
          refine mj_lcmp (pc := 75) dd_M_worked_75 ?_
          refine mj_if_ne (pc := 76) (tgt := 83) dd_M_worked_76 rfl (fun h8 => ?_) (fun h8 => ?_)
          · refine mj_iconst (pc := 79) (v := (0 : Int32)) (by decide) dd_M_worked_79 ?_
            refine mj_goto (pc := 80) (tgt := 89) dd_M_worked_80 rfl ?_
            exact mj_iret dd_M_worked_89 rfl rfl
          · refine mj_lload_n (pc := 83) (i := 1) rfl dd_M_worked_83 ?_
            refine mj_lload_n (pc := 84) (i := 3) rfl dd_M_worked_84 ?_
            refine mj_ldiv (pc := 85) dd_M_worked_85 ?_
            refine mj_callSI (pc := 86) (idx := 193) (As := [.long (x1 / x3)]) (st := []) es_M_bounded ql_M_193 rfl (Nat.le_of_ble_eq_true rfl) (T_M_bounded (g := g) e (by omega) (x1 / x3) M) dd_M_worked_86 (fun q9 hq9 => ?_)
            exact mj_iret dd_M_worked_89 rfl rfl
        · refine mj_ife (fun h10 => ?_) (fun h10 => ?_)
          · refine mj_tswK (pc := 1) (tgt := 90) (k := (6 : Int32)) (off := 89) h10 dd_M_worked_1 (by decide) (by decide) rfl rfl ?_
            refine mj_lload_n (pc := 90) (i := 1) rfl dd_M_worked_90 ?_
            refine mj_lload_n (pc := 91) (i := 3) rfl dd_M_worked_91 ?_
            refine mj_lcmp (pc := 92) dd_M_worked_92 ?_
            refine mj_if_ne (pc := 93) (tgt := 100) dd_M_worked_93 rfl (fun h11 => ?_) (fun h11 => ?_)
            · refine mj_iconst (pc := 96) (v := (1 : Int32)) (by decide) dd_M_worked_96 ?_
              refine mj_goto (pc := 97) (tgt := 101) dd_M_worked_97 rfl ?_
              exact mj_iret dd_M_worked_101 rfl rfl
            · refine mj_iconst (pc := 100) (v := (0 : Int32)) (by decide) dd_M_worked_100 ?_
              exact mj_iret dd_M_worked_101 rfl rfl
          · refine mj_ife (fun h12 => ?_) (fun h12 => ?_)
            · refine mj_tswK (pc := 1) (tgt := 102) (k := (7 : Int32)) (off := 101) h12 dd_M_worked_1 (by decide) (by decide) rfl rfl ?_
              refine mj_lload_n (pc := 102) (i := 1) rfl dd_M_worked_102 ?_
              refine mj_lload_n (pc := 103) (i := 3) rfl dd_M_worked_103 ?_
              refine mj_lcmp (pc := 104) dd_M_worked_104 ?_
              refine mj_if_ge (pc := 105) (tgt := 112) dd_M_worked_105 rfl (fun h13 => ?_) (fun h13 => ?_)
              · refine mj_iconst (pc := 112) (v := (0 : Int32)) (by decide) dd_M_worked_112 ?_
                exact mj_iret dd_M_worked_113 rfl rfl
              · refine mj_iconst (pc := 108) (v := (1 : Int32)) (by decide) dd_M_worked_108 ?_
                refine mj_goto (pc := 109) (tgt := 113) dd_M_worked_109 rfl ?_
                exact mj_iret dd_M_worked_113 rfl rfl
            · refine mj_ife (fun h14 => ?_) (fun h14 => ?_)
              · refine mj_tswK (pc := 1) (tgt := 114) (k := (8 : Int32)) (off := 113) h14 dd_M_worked_1 (by decide) (by decide) rfl rfl ?_
                refine mj_lload_n (pc := 114) (i := 1) rfl dd_M_worked_114 ?_
                refine mj_lload_n (pc := 115) (i := 3) rfl dd_M_worked_115 ?_
                refine mj_lcmp (pc := 116) dd_M_worked_116 ?_
                refine mj_if_le (pc := 117) (tgt := 124) dd_M_worked_117 rfl (fun h15 => ?_) (fun h15 => ?_)
                · refine mj_iconst (pc := 124) (v := (0 : Int32)) (by decide) dd_M_worked_124 ?_
                  exact mj_iret dd_M_worked_125 rfl rfl
                · refine mj_iconst (pc := 120) (v := (1 : Int32)) (by decide) dd_M_worked_120 ?_
                  refine mj_goto (pc := 121) (tgt := 125) dd_M_worked_121 rfl ?_
                  exact mj_iret dd_M_worked_125 rfl rfl
              · refine mj_ife (fun h16 => ?_) (fun h16 => ?_)
                · refine mj_tswK (pc := 1) (tgt := 126) (k := (10 : Int32)) (off := 125) h16 dd_M_worked_1 (by decide) (by decide) rfl rfl ?_
                  refine mj_lload_n (pc := 126) (i := 1) rfl dd_M_worked_126 ?_
                  refine mj_lconst (pc := 127) (v := (0 : Int64)) (by decide) dd_M_worked_127 ?_
                  refine mj_lcmp (pc := 128) dd_M_worked_128 ?_
                  refine mj_if_eq (pc := 129) (tgt := 142) dd_M_worked_129 rfl (fun h17 => ?_) (fun h17 => ?_)
                  · refine mj_iconst (pc := 142) (v := (0 : Int32)) (by decide) dd_M_worked_142 ?_
                    exact mj_iret dd_M_worked_143 rfl rfl
                  · refine mj_lload_n (pc := 132) (i := 3) rfl dd_M_worked_132 ?_
                    refine mj_lconst (pc := 133) (v := (0 : Int64)) (by decide) dd_M_worked_133 ?_
                    refine mj_lcmp (pc := 134) dd_M_worked_134 ?_
                    refine mj_if_eq (pc := 135) (tgt := 142) dd_M_worked_135 rfl (fun h18 => ?_) (fun h18 => ?_)
                    · refine mj_iconst (pc := 142) (v := (0 : Int32)) (by decide) dd_M_worked_142 ?_
                      exact mj_iret dd_M_worked_143 rfl rfl
                    · refine mj_iconst (pc := 138) (v := (1 : Int32)) (by decide) dd_M_worked_138 ?_
                      refine mj_goto (pc := 139) (tgt := 143) dd_M_worked_139 rfl ?_
                      exact mj_iret dd_M_worked_143 rfl rfl
                · refine mj_tswD (pc := 1) (tgt := 144) [2, 3, 4, 5, 6, 7, 8, 10] (mj_k1 (mj_ni (k := (2 : Int32)) (n := 2) (by decide) h1) (mj_k1 (mj_ni (k := (3 : Int32)) (n := 3) (by decide) h3) (mj_k1 (mj_ni (k := (4 : Int32)) (n := 4) (by decide) h5) (mj_k1 (mj_ni (k := (5 : Int32)) (n := 5) (by decide) h7) (mj_k1 (mj_ni (k := (6 : Int32)) (n := 6) (by decide) h10) (mj_k1 (mj_ni (k := (7 : Int32)) (n := 7) (by decide) h12) (mj_k1 (mj_ni (k := (8 : Int32)) (n := 8) (by decide) h14) (mj_k1 (mj_ni (k := (10 : Int32)) (n := 10) (by decide) h16) mj_k0)))))))) dd_M_worked_1 (by decide) (by decide) rfl ?_
                  refine mj_lload_n (pc := 144) (i := 1) rfl dd_M_worked_144 ?_
                  refine mj_lconst (pc := 145) (v := (0 : Int64)) (by decide) dd_M_worked_145 ?_
                  refine mj_lcmp (pc := 146) dd_M_worked_146 ?_
                  refine mj_if_ne (pc := 147) (tgt := 156) dd_M_worked_147 rfl (fun h19 => ?_) (fun h19 => ?_)
                  · refine mj_lload_n (pc := 150) (i := 3) rfl dd_M_worked_150 ?_
                    refine mj_lconst (pc := 151) (v := (0 : Int64)) (by decide) dd_M_worked_151 ?_
                    refine mj_lcmp (pc := 152) dd_M_worked_152 ?_
                    refine mj_if_eq (pc := 153) (tgt := 160) dd_M_worked_153 rfl (fun h20 => ?_) (fun h20 => ?_)
                    · refine mj_iconst (pc := 160) (v := (0 : Int32)) (by decide) dd_M_worked_160 ?_
                      exact mj_iret dd_M_worked_161 rfl rfl
                    · refine mj_iconst (pc := 156) (v := (1 : Int32)) (by decide) dd_M_worked_156 ?_
                      refine mj_goto (pc := 157) (tgt := 161) dd_M_worked_157 rfl ?_
                      exact mj_iret dd_M_worked_161 rfl rfl
                  · refine mj_iconst (pc := 156) (v := (1 : Int32)) (by decide) dd_M_worked_156 ?_
                    refine mj_goto (pc := 157) (tgt := 161) dd_M_worked_157 rfl ?_
                    exact mj_iret dd_M_worked_161 rfl rfl
def F_M_workOut_b45 (N : Nat) (k12 : Int32 → Int32 → Int32 → Int32 → mj_M → Option (Int32 × mj_M)) (x1 : Int32) (x3 : Int32) (x4 : Int32) (x5 : Int32) (M : mj_M) : Option (Int32 × mj_M) :=
    mj_ck x5 2600 (
     if (M 50 x5.toNatClampNeg) = (0) then
     (mj_ck x5 2600 (
     mj_ck x4 80 (mj_lt (mj_u M 58 x4.toNatClampNeg (M 51 x5.toNatClampNeg)) (fun M11 =>
     k12 x1 x3 (x4 + (1 : Int32)) (x5 + (1 : Int32)) M11))))
     else
     (mj_ck x5 2600 (
     mj_ck (M 51 x5.toNatClampNeg) 6 (
     mj_ck x4 80 (mj_lt (mj_u M 58 x4.toNatClampNeg (M 57 (M 51 x5.toNatClampNeg).toNatClampNeg)) (fun M10 =>
     k12 x1 x3 (x4 + (1 : Int32)) (x5 + (1 : Int32)) M10))))))
set_option maxRecDepth 20000 in
theorem T_M_workOut_b45 {g : mj_G} (N : Nat) (e : Nat) (he : 2 ≤ e) (k12 : Int32 → Int32 → Int32 → Int32 → mj_M → Option (Int32 × mj_M)) (hk12 : ∀ (x1 : Int32) (x3 : Int32) (x4 : Int32) (x5 : Int32) (M : mj_M), mj_X g (mj_qI g) "WinterTellersModel" c_M_workOut 6 (some .int) e 12 [(0, .ref 48), (1, .int x1), (3, .int x3), (4, .int x4), (5, .int x5)] [] M (k12 x1 x3 x4 x5 M)) (x1 : Int32) (x3 : Int32) (x4 : Int32) (x5 : Int32) (M : mj_M) : mj_X g (mj_qI g) "WinterTellersModel" c_M_workOut 6 (some .int) e 45 [(0, .ref 48), (1, .int x1), (3, .int x3), (4, .int x4), (5, .int x5)] [] M (F_M_workOut_b45 N k12 x1 x3 x4 x5 M) := by
  unfold F_M_workOut_b45
  refine mj_aload_n (pc := 45) (i := 0) rfl dd_M_workOut_45 ?_
  refine mj_getR (pc := 46) (b := 48) (k := 16) qf_M_37 sh_48 cl_12 rfl (by decide) (r := 58) rfl dd_M_workOut_46 ?_
  refine mj_iload (pc := 49) (i := 4) rfl dd_M_workOut_49 ?_
  refine mj_aload_n (pc := 51) (i := 0) rfl dd_M_workOut_51 ?_
  refine mj_getR (pc := 52) (b := 48) (k := 6) qf_M_13 sh_48 cl_12 rfl (by decide) (r := 50) rfl dd_M_workOut_52 ?_
  refine mj_iload (pc := 55) (i := 5) rfl dd_M_workOut_55 ?_
  refine mj_iald (pc := 57) sh_50 dd_M_workOut_57 ?_
  refine mj_if_ne (pc := 58) (tgt := 71) dd_M_workOut_58 rfl (fun h9 => ?_) (fun h9 => ?_)
  · refine mj_aload_n (pc := 61) (i := 0) rfl dd_M_workOut_61 ?_
    refine mj_getR (pc := 62) (b := 48) (k := 7) qf_M_16 sh_48 cl_12 rfl (by decide) (r := 51) rfl dd_M_workOut_62 ?_
    refine mj_iload (pc := 65) (i := 5) rfl dd_M_workOut_65 ?_
    refine mj_iald (pc := 67) sh_51 dd_M_workOut_67 ?_
    refine mj_goto (pc := 68) (tgt := 83) dd_M_workOut_68 rfl ?_
    refine mj_iast (pc := 83) sh_58 dd_M_workOut_83 (fun M11 _ => ?_)
    refine mj_iinc (pc := 84) (i := 4) (z := (1 : Int32)) rfl (by decide) (by decide) dd_M_workOut_84 ?_
    refine mj_L (L' := [(4, .int (x4 + (1 : Int32))), (0, .ref 48), (1, .int x1), (3, .int x3), (5, .int x5)]) [0, 1, 2, 3, 4] rfl ?_
    refine mj_goto (pc := 87) (tgt := 165) dd_M_workOut_87 rfl ?_
    refine mj_iinc (pc := 165) (i := 5) (z := (1 : Int32)) rfl (by decide) (by decide) dd_M_workOut_165 ?_
    refine mj_L (L' := [(5, .int (x5 + (1 : Int32))), (4, .int (x4 + (1 : Int32))), (0, .ref 48), (1, .int x1), (3, .int x3)]) [0, 1, 2, 3, 4] rfl ?_
    refine mj_goto (pc := 168) (tgt := 12) dd_M_workOut_168 rfl ?_
    refine mj_L (L' := [(0, .ref 48), (1, .int x1), (3, .int x3), (4, .int (x4 + (1 : Int32))), (5, .int (x5 + (1 : Int32)))]) [2, 3, 4, 1, 0] rfl ?_
    exact hk12 x1 x3 (x4 + (1 : Int32)) (x5 + (1 : Int32)) M11
  · refine mj_aload_n (pc := 71) (i := 0) rfl dd_M_workOut_71 ?_
    refine mj_getR (pc := 72) (b := 48) (k := 15) qf_M_34 sh_48 cl_12 rfl (by decide) (r := 57) rfl dd_M_workOut_72 ?_
    refine mj_aload_n (pc := 75) (i := 0) rfl dd_M_workOut_75 ?_
    refine mj_getR (pc := 76) (b := 48) (k := 7) qf_M_16 sh_48 cl_12 rfl (by decide) (r := 51) rfl dd_M_workOut_76 ?_
    refine mj_iload (pc := 79) (i := 5) rfl dd_M_workOut_79 ?_
    refine mj_iald (pc := 81) sh_51 dd_M_workOut_81 ?_
    refine mj_iald (pc := 82) sh_57 dd_M_workOut_82 ?_
    refine mj_iast (pc := 83) sh_58 dd_M_workOut_83 (fun M10 _ => ?_)
    refine mj_iinc (pc := 84) (i := 4) (z := (1 : Int32)) rfl (by decide) (by decide) dd_M_workOut_84 ?_
    refine mj_L (L' := [(4, .int (x4 + (1 : Int32))), (0, .ref 48), (1, .int x1), (3, .int x3), (5, .int x5)]) [0, 1, 2, 3, 4] rfl ?_
    refine mj_goto (pc := 87) (tgt := 165) dd_M_workOut_87 rfl ?_
    refine mj_iinc (pc := 165) (i := 5) (z := (1 : Int32)) rfl (by decide) (by decide) dd_M_workOut_165 ?_
    refine mj_L (L' := [(5, .int (x5 + (1 : Int32))), (4, .int (x4 + (1 : Int32))), (0, .ref 48), (1, .int x1), (3, .int x3)]) [0, 1, 2, 3, 4] rfl ?_
    refine mj_goto (pc := 168) (tgt := 12) dd_M_workOut_168 rfl ?_
    refine mj_L (L' := [(0, .ref 48), (1, .int x1), (3, .int x3), (4, .int (x4 + (1 : Int32))), (5, .int (x5 + (1 : Int32)))]) [2, 3, 4, 1, 0] rfl ?_
    exact hk12 x1 x3 (x4 + (1 : Int32)) (x5 + (1 : Int32)) M10
def F_M_workOut_b12 (N : Nat) : Nat → Int32 → Int32 → Int32 → Int32 → mj_M → Option (Int32 × mj_M)
  | 0, _, _, _, _, _ => none
  | n + 1, x1, x3, x4, x5, M =>
    if (((520 : Int32) * x1) + x3) ≤ x5 then
     (some (M 58 0, M))
     else
     (mj_ck x5 2600 (
     if (M 50 x5.toNatClampNeg) = (0) then
     (F_M_workOut_b45 N (F_M_workOut_b12 N n) x1 x3 x4 x5 M)
     else
     (mj_ck x5 2600 (
     if (M 50 x5.toNatClampNeg) = (1 : Int32) then
     (F_M_workOut_b45 N (F_M_workOut_b12 N n) x1 x3 x4 x5 M)
     else
     (mj_ck x5 2600 (
     if (M 50 x5.toNatClampNeg) = (9 : Int32) then
     (mj_ck (x4 - (1 : Int32)) 80 (
     mj_ck (x4 - (1 : Int32)) 80 (mj_lt (mj_u M 58 (x4 - (1 : Int32)).toNatClampNeg ((1 : Int32) - (M 58 (x4 - (1 : Int32)).toNatClampNeg))) (fun M8 =>
     F_M_workOut_b12 N n x1 x3 x4 (x5 + (1 : Int32)) M8))))
     else
     (mj_ck x5 2600 (
     mj_ck ((x4 + (-1 : Int32)) - (1 : Int32)) 80 (
     mj_ck (x4 + (-1 : Int32)) 80 (
     (F_M_worked (M 50 x5.toNatClampNeg) ((M 58 ((x4 + (-1 : Int32)) - (1 : Int32)).toNatClampNeg).toInt64) ((M 58 (x4 + (-1 : Int32)).toNatClampNeg).toInt64) M).bind (fun q6 =>
     mj_ck ((x4 + (-1 : Int32)) - (1 : Int32)) 80 (mj_lt (mj_u q6.2 58 ((x4 + (-1 : Int32)) - (1 : Int32)).toNatClampNeg q6.1) (fun M7 =>
     F_M_workOut_b12 N n x1 x3 (x4 + (-1 : Int32)) (x5 + (1 : Int32)) M7)))))))))))))
set_option maxRecDepth 20000 in
theorem T_M_workOut_b12 {g : mj_G} (N : Nat) (e : Nat) (he : 2 ≤ e) : ∀ (n : Nat) (x1 : Int32) (x3 : Int32) (x4 : Int32) (x5 : Int32) (M : mj_M), mj_X g (mj_qI g) "WinterTellersModel" c_M_workOut 6 (some .int) e 12 [(0, .ref 48), (1, .int x1), (3, .int x3), (4, .int x4), (5, .int x5)] [] M (F_M_workOut_b12 N n x1 x3 x4 x5 M) := by
  intro n
  induction n with
  | zero => intro x1 x3 x4 x5 M; exact mj_none
  | succ n ih =>
    intro x1 x3 x4 x5 M
    rw [F_M_workOut_b12]
    refine mj_iload (pc := 12) (i := 5) rfl dd_M_workOut_12 ?_
    refine mj_sipush (pc := 14) (v := (520 : Int32)) (by decide) dd_M_workOut_14 ?_
    refine mj_iload_n (pc := 17) (i := 1) rfl dd_M_workOut_17 ?_
    refine mj_imul (pc := 18) dd_M_workOut_18 ?_
    refine mj_iload_n (pc := 19) (i := 3) rfl dd_M_workOut_19 ?_
    refine mj_iadd (pc := 20) dd_M_workOut_20 ?_
    refine mj_icmp_ge (pc := 21) (tgt := 171) dd_M_workOut_21 rfl (fun h2 => ?_) (fun h2 => ?_)
    · refine mj_aload_n (pc := 171) (i := 0) rfl dd_M_workOut_171 ?_
      refine mj_getR (pc := 172) (b := 48) (k := 16) qf_M_37 sh_48 cl_12 rfl (by decide) (r := 58) rfl dd_M_workOut_172 ?_
      refine mj_iconst (pc := 175) (v := (0 : Int32)) (by decide) dd_M_workOut_175 ?_
      refine mj_ialdK (pc := 176) (j := 0) sh_58 (by decide) rfl dd_M_workOut_176 ?_
      exact mj_iret dd_M_workOut_177 rfl rfl
    · refine mj_aload_n (pc := 24) (i := 0) rfl dd_M_workOut_24 ?_
      refine mj_getR (pc := 25) (b := 48) (k := 6) qf_M_13 sh_48 cl_12 rfl (by decide) (r := 50) rfl dd_M_workOut_25 ?_
      refine mj_iload (pc := 28) (i := 5) rfl dd_M_workOut_28 ?_
      refine mj_iald (pc := 30) sh_50 dd_M_workOut_30 ?_
      refine mj_if_eq (pc := 31) (tgt := 45) dd_M_workOut_31 rfl (fun h3 => ?_) (fun h3 => ?_)
      · refine mj_L (L' := [(0, .ref 48), (1, .int x1), (3, .int x3), (4, .int x4), (5, .int x5)]) [0, 1, 2, 3, 4] rfl ?_
        exact T_M_workOut_b45 (g := g) N e he (F_M_workOut_b12 N n) ih x1 x3 x4 x5 M
      · refine mj_aload_n (pc := 34) (i := 0) rfl dd_M_workOut_34 ?_
        refine mj_getR (pc := 35) (b := 48) (k := 6) qf_M_13 sh_48 cl_12 rfl (by decide) (r := 50) rfl dd_M_workOut_35 ?_
        refine mj_iload (pc := 38) (i := 5) rfl dd_M_workOut_38 ?_
        refine mj_iald (pc := 40) sh_50 dd_M_workOut_40 ?_
        refine mj_iconst (pc := 41) (v := (1 : Int32)) (by decide) dd_M_workOut_41 ?_
        refine mj_icmp_ne (pc := 42) (tgt := 90) dd_M_workOut_42 rfl (fun h4 => ?_) (fun h4 => ?_)
        · refine mj_L (L' := [(0, .ref 48), (1, .int x1), (3, .int x3), (4, .int x4), (5, .int x5)]) [0, 1, 2, 3, 4] rfl ?_
          exact T_M_workOut_b45 (g := g) N e he (F_M_workOut_b12 N n) ih x1 x3 x4 x5 M
        · refine mj_aload_n (pc := 90) (i := 0) rfl dd_M_workOut_90 ?_
          refine mj_getR (pc := 91) (b := 48) (k := 6) qf_M_13 sh_48 cl_12 rfl (by decide) (r := 50) rfl dd_M_workOut_91 ?_
          refine mj_iload (pc := 94) (i := 5) rfl dd_M_workOut_94 ?_
          refine mj_iald (pc := 96) sh_50 dd_M_workOut_96 ?_
          refine mj_bipush (pc := 97) (v := (9 : Int32)) (by decide) dd_M_workOut_97 ?_
          refine mj_icmp_ne (pc := 99) (tgt := 125) dd_M_workOut_99 rfl (fun h5 => ?_) (fun h5 => ?_)
          · refine mj_aload_n (pc := 102) (i := 0) rfl dd_M_workOut_102 ?_
            refine mj_getR (pc := 103) (b := 48) (k := 16) qf_M_37 sh_48 cl_12 rfl (by decide) (r := 58) rfl dd_M_workOut_103 ?_
            refine mj_iload (pc := 106) (i := 4) rfl dd_M_workOut_106 ?_
            refine mj_iconst (pc := 108) (v := (1 : Int32)) (by decide) dd_M_workOut_108 ?_
            refine mj_isub (pc := 109) dd_M_workOut_109 ?_
            refine mj_iconst (pc := 110) (v := (1 : Int32)) (by decide) dd_M_workOut_110 ?_
            refine mj_aload_n (pc := 111) (i := 0) rfl dd_M_workOut_111 ?_
            refine mj_getR (pc := 112) (b := 48) (k := 16) qf_M_37 sh_48 cl_12 rfl (by decide) (r := 58) rfl dd_M_workOut_112 ?_
            refine mj_iload (pc := 115) (i := 4) rfl dd_M_workOut_115 ?_
            refine mj_iconst (pc := 117) (v := (1 : Int32)) (by decide) dd_M_workOut_117 ?_
            refine mj_isub (pc := 118) dd_M_workOut_118 ?_
            refine mj_iald (pc := 119) sh_58 dd_M_workOut_119 ?_
            refine mj_isub (pc := 120) dd_M_workOut_120 ?_
            refine mj_iast (pc := 121) sh_58 dd_M_workOut_121 (fun M8 _ => ?_)
            refine mj_goto (pc := 122) (tgt := 165) dd_M_workOut_122 rfl ?_
            refine mj_iinc (pc := 165) (i := 5) (z := (1 : Int32)) rfl (by decide) (by decide) dd_M_workOut_165 ?_
            refine mj_L (L' := [(5, .int (x5 + (1 : Int32))), (0, .ref 48), (1, .int x1), (3, .int x3), (4, .int x4)]) [0, 1, 2, 3, 4] rfl ?_
            refine mj_goto (pc := 168) (tgt := 12) dd_M_workOut_168 rfl ?_
            refine mj_L (L' := [(0, .ref 48), (1, .int x1), (3, .int x3), (4, .int x4), (5, .int (x5 + (1 : Int32)))]) [1, 2, 3, 4, 0] rfl ?_
            exact ih x1 x3 x4 (x5 + (1 : Int32)) M8
          · refine mj_iinc (pc := 125) (i := 4) (z := (-1 : Int32)) rfl (by decide) (by decide) dd_M_workOut_125 ?_
            refine mj_L (L' := [(4, .int (x4 + (-1 : Int32))), (0, .ref 48), (1, .int x1), (3, .int x3), (5, .int x5)]) [0, 1, 2, 3, 4] rfl ?_
            refine mj_aload_n (pc := 128) (i := 0) rfl dd_M_workOut_128 ?_
            refine mj_getR (pc := 129) (b := 48) (k := 16) qf_M_37 sh_48 cl_12 rfl (by decide) (r := 58) rfl dd_M_workOut_129 ?_
            refine mj_iload (pc := 132) (i := 4) rfl dd_M_workOut_132 ?_
            refine mj_iconst (pc := 134) (v := (1 : Int32)) (by decide) dd_M_workOut_134 ?_
            refine mj_isub (pc := 135) dd_M_workOut_135 ?_
            refine mj_aload_n (pc := 136) (i := 0) rfl dd_M_workOut_136 ?_
            refine mj_getR (pc := 137) (b := 48) (k := 6) qf_M_13 sh_48 cl_12 rfl (by decide) (r := 50) rfl dd_M_workOut_137 ?_
            refine mj_iload (pc := 140) (i := 5) rfl dd_M_workOut_140 ?_
            refine mj_iald (pc := 142) sh_50 dd_M_workOut_142 ?_
            refine mj_aload_n (pc := 143) (i := 0) rfl dd_M_workOut_143 ?_
            refine mj_getR (pc := 144) (b := 48) (k := 16) qf_M_37 sh_48 cl_12 rfl (by decide) (r := 58) rfl dd_M_workOut_144 ?_
            refine mj_iload (pc := 147) (i := 4) rfl dd_M_workOut_147 ?_
            refine mj_iconst (pc := 149) (v := (1 : Int32)) (by decide) dd_M_workOut_149 ?_
            refine mj_isub (pc := 150) dd_M_workOut_150 ?_
            refine mj_iald (pc := 151) sh_58 dd_M_workOut_151 ?_
            refine mj_i2l (pc := 152) dd_M_workOut_152 ?_
            refine mj_aload_n (pc := 153) (i := 0) rfl dd_M_workOut_153 ?_
            refine mj_getR (pc := 154) (b := 48) (k := 16) qf_M_37 sh_48 cl_12 rfl (by decide) (r := 58) rfl dd_M_workOut_154 ?_
            refine mj_iload (pc := 157) (i := 4) rfl dd_M_workOut_157 ?_
            refine mj_iald (pc := 159) sh_58 dd_M_workOut_159 ?_
            refine mj_i2l (pc := 160) dd_M_workOut_160 ?_
            refine mj_callSI (pc := 161) (idx := 197) (As := [.int (M 50 x5.toNatClampNeg), .long ((M 58 ((x4 + (-1 : Int32)) - (1 : Int32)).toNatClampNeg).toInt64), .long ((M 58 (x4 + (-1 : Int32)).toNatClampNeg).toInt64)]) (st := [.int ((x4 + (-1 : Int32)) - (1 : Int32)), .ref 58]) es_M_worked ql_M_197 rfl (Nat.le_of_ble_eq_true rfl) (T_M_worked (g := g) e (by omega) (M 50 x5.toNatClampNeg) ((M 58 ((x4 + (-1 : Int32)) - (1 : Int32)).toNatClampNeg).toInt64) ((M 58 (x4 + (-1 : Int32)).toNatClampNeg).toInt64) M) dd_M_workOut_161 (fun q6 hq6 => ?_)
            refine mj_iast (pc := 164) sh_58 dd_M_workOut_164 (fun M7 _ => ?_)
            refine mj_iinc (pc := 165) (i := 5) (z := (1 : Int32)) rfl (by decide) (by decide) dd_M_workOut_165 ?_
            refine mj_L (L' := [(5, .int (x5 + (1 : Int32))), (4, .int (x4 + (-1 : Int32))), (0, .ref 48), (1, .int x1), (3, .int x3)]) [0, 1, 2, 3, 4] rfl ?_
            refine mj_goto (pc := 168) (tgt := 12) dd_M_workOut_168 rfl ?_
            refine mj_L (L' := [(0, .ref 48), (1, .int x1), (3, .int x3), (4, .int (x4 + (-1 : Int32))), (5, .int (x5 + (1 : Int32)))]) [2, 3, 4, 1, 0] rfl ?_
            exact ih x1 x3 (x4 + (-1 : Int32)) (x5 + (1 : Int32)) M7
def F_M_workOut (N : Nat) (x1 : Int32) (x2 : Int32) (x3 : Int32) (M : mj_M) : Option (Int32 × mj_M) :=
    mj_lt (((520 : Int32) * x1) + x2) (fun v1 =>
     F_M_workOut_b12 N N x1 x3 (0 : Int32) v1 M)
set_option maxRecDepth 20000 in
theorem T_M_workOut {g : mj_G} (N : Nat) : ∀ d, 3 ≤ d → ∀ (x1 : Int32) (x2 : Int32) (x3 : Int32) (M : mj_M), mj_Mt g (mj_qI g) d y_M_workOut c_M_workOut 6 (some .int) [.ref 48, .int x1, .int x2, .int x3] M (F_M_workOut N x1 x2 x3 M) := by
  intro d hd x1 x2 x3 M
  obtain ⟨e, rfl⟩ : ∃ e, d = e + 1 := ⟨d - 1, by omega⟩
  have he : 2 ≤ e := by omega
  refine mj_met (by decide +kernel) (Nat.le_of_ble_eq_true rfl) ?_
  unfold F_M_workOut
  refine mj_L (L' := [(0, .ref 48), (1, .int x1), (2, .int x2), (3, .int x3)]) [0, 1, 2, 3] rfl ?_
  refine mj_iconst (pc := 0) (v := (0 : Int32)) (by decide) dd_M_workOut_0 ?_
  refine mj_istore (pc := 1) (by decide) dd_M_workOut_1 ?_
  refine mj_L (L' := [(4, .int (0 : Int32)), (0, .ref 48), (1, .int x1), (2, .int x2), (3, .int x3)]) [0, 1, 2, 3, 4] rfl ?_
  refine mj_sipush (pc := 3) (v := (520 : Int32)) (by decide) dd_M_workOut_3 ?_
  refine mj_iload_n (pc := 6) (i := 1) rfl dd_M_workOut_6 ?_
  refine mj_imul (pc := 7) dd_M_workOut_7 ?_
  refine mj_iload_n (pc := 8) (i := 2) rfl dd_M_workOut_8 ?_
  refine mj_iadd (pc := 9) dd_M_workOut_9 ?_
  refine mj_istoreL (pc := 10) (by decide) dd_M_workOut_10 (fun v1 _ => ?_)
  refine mj_L (L' := [(5, .int v1), (4, .int (0 : Int32)), (0, .ref 48), (1, .int x1), (3, .int x3)]) [0, 1, 2, 3, 5] rfl ?_
  refine mj_L (L' := [(0, .ref 48), (1, .int x1), (3, .int x3), (4, .int (0 : Int32)), (5, .int v1)]) [2, 3, 4, 1, 0] rfl ?_
  exact T_M_workOut_b12 (g := g) N e he N x1 x3 (0 : Int32) v1 M
def F_M_worthOf_b57 (N : Nat) (x1 : Int32) (x2 : Int32) (M : mj_M) : Option (Int32 × mj_M) :=
    mj_ck x2 700 (
     mj_ck x2 700 (
     (F_M_workOut N x1 (M 55 x2.toNatClampNeg) (M 56 x2.toNatClampNeg) M).bind (fun q6 =>
     some (q6.1, q6.2))))
set_option maxRecDepth 20000 in
theorem T_M_worthOf_b57 {g : mj_G} (N : Nat) (e : Nat) (he : 3 ≤ e) (x1 : Int32) (x2 : Int32) (M : mj_M) : mj_X g (mj_qI g) "WinterTellersModel" c_M_worthOf 3 (some .int) e 57 [(0, .ref 48), (1, .int x1), (2, .int x2)] [] M (F_M_worthOf_b57 N x1 x2 M) := by
  unfold F_M_worthOf_b57
  refine mj_aload_n (pc := 57) (i := 0) rfl dd_M_worthOf_57 ?_
  refine mj_iload_n (pc := 58) (i := 1) rfl dd_M_worthOf_58 ?_
  refine mj_aload_n (pc := 59) (i := 0) rfl dd_M_worthOf_59 ?_
  refine mj_getR (pc := 60) (b := 48) (k := 11) qf_M_28 sh_48 cl_12 rfl (by decide) (r := 55) rfl dd_M_worthOf_60 ?_
  refine mj_iload_n (pc := 63) (i := 2) rfl dd_M_worthOf_63 ?_
  refine mj_iald (pc := 64) sh_55 dd_M_worthOf_64 ?_
  refine mj_aload_n (pc := 65) (i := 0) rfl dd_M_worthOf_65 ?_
  refine mj_getR (pc := 66) (b := 48) (k := 12) qf_M_31 sh_48 cl_12 rfl (by decide) (r := 56) rfl dd_M_worthOf_66 ?_
  refine mj_iload_n (pc := 69) (i := 2) rfl dd_M_worthOf_69 ?_
  refine mj_iald (pc := 70) sh_56 dd_M_worthOf_70 ?_
  refine mj_callVI (pc := 71) (idx := 201) (b := 48) (As := [.int x1, .int (M 55 x2.toNatClampNeg), .int (M 56 x2.toNatClampNeg)]) (st := []) sh_48 cl_12 ev_M_workOut ql_M_201 rfl (Nat.le_of_ble_eq_true rfl) (T_M_workOut (g := g) N e (by omega) x1 (M 55 x2.toNatClampNeg) (M 56 x2.toNatClampNeg) M) dd_M_worthOf_71 (fun q6 hq6 => ?_)
  exact mj_iret dd_M_worthOf_74 rfl rfl
def F_M_worthOf_b6 (N : Nat) : Nat → Int32 → Int32 → mj_M → Option (Int32 × mj_M)
  | 0, _, _, _ => none
  | n + 1, x1, x2, M =>
    mj_ck x1 5 (
     if (((140 : Int32) * x1) + (M 53 x1.toNatClampNeg)) ≤ x2 then
     (some ((0 : Int32), M))
     else
     (mj_ck x2 700 (
     mj_ck x2 700 (
     if (M 54 x2.toNatClampNeg) = (M 55 x2.toNatClampNeg) then
     (F_M_worthOf_b57 N x1 x2 M)
     else
     (mj_ck x2 700 (
     mj_ck x2 700 (
     (F_M_workOut N x1 (M 54 x2.toNatClampNeg) (M 55 x2.toNatClampNeg) M).bind (fun q4 =>
     if q4.1 = (0) then
     (F_M_worthOf_b6 N n x1 (x2 + (1 : Int32)) q4.2)
     else
     (F_M_worthOf_b57 N x1 x2 q4.2)))))))))
set_option maxRecDepth 20000 in
theorem T_M_worthOf_b6 {g : mj_G} (N : Nat) (e : Nat) (he : 3 ≤ e) : ∀ (n : Nat) (x1 : Int32) (x2 : Int32) (M : mj_M), mj_X g (mj_qI g) "WinterTellersModel" c_M_worthOf 3 (some .int) e 6 [(0, .ref 48), (1, .int x1), (2, .int x2)] [] M (F_M_worthOf_b6 N n x1 x2 M) := by
  intro n
  induction n with
  | zero => intro x1 x2 M; exact mj_none
  | succ n ih =>
    intro x1 x2 M
    rw [F_M_worthOf_b6]
    refine mj_iload_n (pc := 6) (i := 2) rfl dd_M_worthOf_6 ?_
    refine mj_sipush (pc := 7) (v := (140 : Int32)) (by decide) dd_M_worthOf_7 ?_
    refine mj_iload_n (pc := 10) (i := 1) rfl dd_M_worthOf_10 ?_
    refine mj_imul (pc := 11) dd_M_worthOf_11 ?_
    refine mj_aload_n (pc := 12) (i := 0) rfl dd_M_worthOf_12 ?_
    refine mj_getR (pc := 13) (b := 48) (k := 9) qf_M_22 sh_48 cl_12 rfl (by decide) (r := 53) rfl dd_M_worthOf_13 ?_
    refine mj_iload_n (pc := 16) (i := 1) rfl dd_M_worthOf_16 ?_
    refine mj_iald (pc := 17) sh_53 dd_M_worthOf_17 ?_
    refine mj_iadd (pc := 18) dd_M_worthOf_18 ?_
    refine mj_icmp_ge (pc := 19) (tgt := 81) dd_M_worthOf_19 rfl (fun h2 => ?_) (fun h2 => ?_)
    · refine mj_iconst (pc := 81) (v := (0 : Int32)) (by decide) dd_M_worthOf_81 ?_
      exact mj_iret dd_M_worthOf_82 rfl rfl
    · refine mj_aload_n (pc := 22) (i := 0) rfl dd_M_worthOf_22 ?_
      refine mj_getR (pc := 23) (b := 48) (k := 10) qf_M_25 sh_48 cl_12 rfl (by decide) (r := 54) rfl dd_M_worthOf_23 ?_
      refine mj_iload_n (pc := 26) (i := 2) rfl dd_M_worthOf_26 ?_
      refine mj_iald (pc := 27) sh_54 dd_M_worthOf_27 ?_
      refine mj_aload_n (pc := 28) (i := 0) rfl dd_M_worthOf_28 ?_
      refine mj_getR (pc := 29) (b := 48) (k := 11) qf_M_28 sh_48 cl_12 rfl (by decide) (r := 55) rfl dd_M_worthOf_29 ?_
      refine mj_iload_n (pc := 32) (i := 2) rfl dd_M_worthOf_32 ?_
      refine mj_iald (pc := 33) sh_55 dd_M_worthOf_33 ?_
      refine mj_icmp_eq (pc := 34) (tgt := 57) dd_M_worthOf_34 rfl (fun h3 => ?_) (fun h3 => ?_)
      · refine mj_L (L' := [(0, .ref 48), (1, .int x1), (2, .int x2)]) [0, 1, 2] rfl ?_
        exact T_M_worthOf_b57 (g := g) N e he x1 x2 M
      · refine mj_aload_n (pc := 37) (i := 0) rfl dd_M_worthOf_37 ?_
        refine mj_iload_n (pc := 38) (i := 1) rfl dd_M_worthOf_38 ?_
        refine mj_aload_n (pc := 39) (i := 0) rfl dd_M_worthOf_39 ?_
        refine mj_getR (pc := 40) (b := 48) (k := 10) qf_M_25 sh_48 cl_12 rfl (by decide) (r := 54) rfl dd_M_worthOf_40 ?_
        refine mj_iload_n (pc := 43) (i := 2) rfl dd_M_worthOf_43 ?_
        refine mj_iald (pc := 44) sh_54 dd_M_worthOf_44 ?_
        refine mj_aload_n (pc := 45) (i := 0) rfl dd_M_worthOf_45 ?_
        refine mj_getR (pc := 46) (b := 48) (k := 11) qf_M_28 sh_48 cl_12 rfl (by decide) (r := 55) rfl dd_M_worthOf_46 ?_
        refine mj_iload_n (pc := 49) (i := 2) rfl dd_M_worthOf_49 ?_
        refine mj_iald (pc := 50) sh_55 dd_M_worthOf_50 ?_
        refine mj_callVI (pc := 51) (idx := 201) (b := 48) (As := [.int x1, .int (M 54 x2.toNatClampNeg), .int (M 55 x2.toNatClampNeg)]) (st := []) sh_48 cl_12 ev_M_workOut ql_M_201 rfl (Nat.le_of_ble_eq_true rfl) (T_M_workOut (g := g) N e (by omega) x1 (M 54 x2.toNatClampNeg) (M 55 x2.toNatClampNeg) M) dd_M_worthOf_51 (fun q4 hq4 => ?_)
        refine mj_if_eq (pc := 54) (tgt := 75) dd_M_worthOf_54 rfl (fun h5 => ?_) (fun h5 => ?_)
        · refine mj_iinc (pc := 75) (i := 2) (z := (1 : Int32)) rfl (by decide) (by decide) dd_M_worthOf_75 ?_
          refine mj_L (L' := [(2, .int (x2 + (1 : Int32))), (0, .ref 48), (1, .int x1)]) [0, 1, 2] rfl ?_
          refine mj_goto (pc := 78) (tgt := 6) dd_M_worthOf_78 rfl ?_
          refine mj_L (L' := [(0, .ref 48), (1, .int x1), (2, .int (x2 + (1 : Int32)))]) [1, 2, 0] rfl ?_
          exact ih x1 (x2 + (1 : Int32)) q4.2
        · refine mj_L (L' := [(0, .ref 48), (1, .int x1), (2, .int x2)]) [0, 1, 2] rfl ?_
          exact T_M_worthOf_b57 (g := g) N e he x1 x2 q4.2
def F_M_worthOf (N : Nat) (x1 : Int32) (M : mj_M) : Option (Int32 × mj_M) :=
    mj_lt ((140 : Int32) * x1) (fun v1 =>
     F_M_worthOf_b6 N N x1 v1 M)
set_option maxRecDepth 20000 in
theorem T_M_worthOf {g : mj_G} (N : Nat) : ∀ d, 4 ≤ d → ∀ (x1 : Int32) (M : mj_M), mj_Mt g (mj_qI g) d y_M_worthOf c_M_worthOf 3 (some .int) [.ref 48, .int x1] M (F_M_worthOf N x1 M) := by
  intro d hd x1 M
  obtain ⟨e, rfl⟩ : ∃ e, d = e + 1 := ⟨d - 1, by omega⟩
  have he : 3 ≤ e := by omega
  refine mj_met (by decide +kernel) (Nat.le_of_ble_eq_true rfl) ?_
  unfold F_M_worthOf
  refine mj_L (L' := [(0, .ref 48), (1, .int x1)]) [0, 1] rfl ?_
  refine mj_sipush (pc := 0) (v := (140 : Int32)) (by decide) dd_M_worthOf_0 ?_
  refine mj_iload_n (pc := 3) (i := 1) rfl dd_M_worthOf_3 ?_
  refine mj_imul (pc := 4) dd_M_worthOf_4 ?_
  refine mj_istore_nL (pc := 5) (by decide) dd_M_worthOf_5 (fun v1 _ => ?_)
  refine mj_L (L' := [(2, .int v1), (0, .ref 48), (1, .int x1)]) [0, 1, 2] rfl ?_
  refine mj_L (L' := [(0, .ref 48), (1, .int x1), (2, .int v1)]) [1, 2, 0] rfl ?_
  exact T_M_worthOf_b6 (g := g) N e he N x1 v1 M
def F_M_nightsBy_b127 (N : Nat) (x5 : Int32) (M : mj_M) : Option (Int32 × mj_M) :=
    some (mj_max (0 : Int32) (mj_min (20 : Int32) x5), M)
set_option maxRecDepth 20000 in
theorem T_M_nightsBy_b127 {g : mj_G} (N : Nat) (e : Nat) (he : 4 ≤ e) (x5 : Int32) (M : mj_M) : mj_X g (mj_qI g) "WinterTellersModel" c_M_nightsBy 6 (some .int) e 127 [(5, .int x5)] [] M (F_M_nightsBy_b127 N x5 M) := by
  unfold F_M_nightsBy_b127
  refine mj_iconst (pc := 127) (v := (0 : Int32)) (by decide) dd_M_nightsBy_127 ?_
  refine mj_bipush (pc := 128) (v := (20 : Int32)) (by decide) dd_M_nightsBy_128 ?_
  refine mj_iload (pc := 130) (i := 5) rfl dd_M_nightsBy_130 ?_
  refine mj_mmin (pc := 132) (idx := 273) qm_M_273 (Nat.le_of_ble_eq_true rfl) dd_M_nightsBy_132 ?_
  refine mj_mmax (pc := 135) (idx := 275) qm_M_275 (Nat.le_of_ble_eq_true rfl) dd_M_nightsBy_135 ?_
  exact mj_iret dd_M_nightsBy_138 rfl rfl
def F_M_nightsBy_b21 (N : Nat) (x1 : Int32) (x2 : Int32) (x3 : Int32) (x4 : Int32) (s0 : Int32) (M : mj_M) : Option (Int32 × mj_M) :=
    (F_M_ofHouse x1 (1 : Int32) M).bind (fun q3 =>
     (F_M_ofTale x2 (2 : Int32) q3.2).bind (fun q4 =>
     mj_lt ((((s0 + x3) + (q3.1 / (3 : Int32))) + ((2 : Int32) * q4.1)) - x4) (fun v5 =>
     if (q4.2 48 29) = (-1 : Int32) then
     (F_M_nightsBy_b127 N v5 q4.2)
     else
     ((F_M_ofTale x2 (0 : Int32) q4.2).bind (fun q7 =>
     mj_lt (mj_u q7.2 57 0 q7.1) (fun M8 =>
     mj_lt (mj_u M8 57 1 x3) (fun M9 =>
     (F_M_ofHouse x1 (1 : Int32) M9).bind (fun q10 =>
     mj_lt (mj_u q10.2 57 2 q10.1) (fun M11 =>
     mj_lt (mj_u M11 57 3 x4) (fun M12 =>
     (F_M_ofHouse x1 (2 : Int32) M12).bind (fun q13 =>
     mj_lt (mj_u q13.2 57 4 q13.1) (fun M14 =>
     (F_M_ofTale x2 (2 : Int32) M14).bind (fun q15 =>
     mj_lt (mj_u q15.2 57 5 q15.1) (fun M16 =>
     (F_M_worthOf N (M16 48 29) M16).bind (fun q17 =>
     F_M_nightsBy_b127 N q17.1 q17.2)))))))))))))))
set_option maxRecDepth 20000 in
theorem T_M_nightsBy_b21 {g : mj_G} (N : Nat) (e : Nat) (he : 4 ≤ e) (x1 : Int32) (x2 : Int32) (x3 : Int32) (x4 : Int32) (s0 : Int32) (M : mj_M) : mj_X g (mj_qI g) "WinterTellersModel" c_M_nightsBy 6 (some .int) e 21 [(0, .ref 48), (1, .int x1), (2, .int x2), (3, .int x3), (4, .int x4)] [.int s0] M (F_M_nightsBy_b21 N x1 x2 x3 x4 s0 M) := by
  unfold F_M_nightsBy_b21
  refine mj_iload_n (pc := 21) (i := 3) rfl dd_M_nightsBy_21 ?_
  refine mj_iadd (pc := 22) dd_M_nightsBy_22 ?_
  refine mj_aload_n (pc := 23) (i := 0) rfl dd_M_nightsBy_23 ?_
  refine mj_iload_n (pc := 24) (i := 1) rfl dd_M_nightsBy_24 ?_
  refine mj_iconst (pc := 25) (v := (1 : Int32)) (by decide) dd_M_nightsBy_25 ?_
  refine mj_callVI (pc := 26) (idx := 251) (b := 48) (As := [.int x1, .int (1 : Int32)]) (st := [.int (s0 + x3)]) sh_48 cl_12 ev_M_ofHouse ql_M_251 rfl (Nat.le_of_ble_eq_true rfl) (T_M_ofHouse (g := g) e (by omega) x1 (1 : Int32) M) dd_M_nightsBy_26 (fun q3 hq3 => ?_)
  refine mj_iconst (pc := 29) (v := (3 : Int32)) (by decide) dd_M_nightsBy_29 ?_
  refine mj_idivK (pc := 30) (by decide) dd_M_nightsBy_30 ?_
  refine mj_iadd (pc := 31) dd_M_nightsBy_31 ?_
  refine mj_iconst (pc := 32) (v := (2 : Int32)) (by decide) dd_M_nightsBy_32 ?_
  refine mj_aload_n (pc := 33) (i := 0) rfl dd_M_nightsBy_33 ?_
  refine mj_iload_n (pc := 34) (i := 2) rfl dd_M_nightsBy_34 ?_
  refine mj_iconst (pc := 35) (v := (2 : Int32)) (by decide) dd_M_nightsBy_35 ?_
  refine mj_callVI (pc := 36) (idx := 248) (b := 48) (As := [.int x2, .int (2 : Int32)]) (st := [.int (2 : Int32), .int ((s0 + x3) + (q3.1 / (3 : Int32)))]) sh_48 cl_12 ev_M_ofTale ql_M_248 rfl (Nat.le_of_ble_eq_true rfl) (T_M_ofTale (g := g) e (by omega) x2 (2 : Int32) q3.2) dd_M_nightsBy_36 (fun q4 hq4 => ?_)
  refine mj_imul (pc := 39) dd_M_nightsBy_39 ?_
  refine mj_iadd (pc := 40) dd_M_nightsBy_40 ?_
  refine mj_iload (pc := 41) (i := 4) rfl dd_M_nightsBy_41 ?_
  refine mj_isub (pc := 43) dd_M_nightsBy_43 ?_
  refine mj_istoreL (pc := 44) (by decide) dd_M_nightsBy_44 (fun v5 _ => ?_)
  refine mj_L (L' := [(5, .int v5), (0, .ref 48), (1, .int x1), (2, .int x2), (3, .int x3), (4, .int x4)]) [0, 1, 2, 3, 4, 5] rfl ?_
  refine mj_aload_n (pc := 46) (i := 0) rfl dd_M_nightsBy_46 ?_
  refine mj_getI (pc := 47) (b := 48) (k := 29) qf_M_64 sh_48 cl_12 rfl (by decide) rfl dd_M_nightsBy_47 ?_
  refine mj_iconst (pc := 50) (v := (-1 : Int32)) (by decide) dd_M_nightsBy_50 ?_
  refine mj_icmp_eq (pc := 51) (tgt := 127) dd_M_nightsBy_51 rfl (fun h6 => ?_) (fun h6 => ?_)
  · refine mj_L (L' := [(5, .int v5)]) [0] rfl ?_
    exact T_M_nightsBy_b127 (g := g) N e he v5 q4.2
  · refine mj_aload_n (pc := 54) (i := 0) rfl dd_M_nightsBy_54 ?_
    refine mj_getR (pc := 55) (b := 48) (k := 15) qf_M_34 sh_48 cl_12 rfl (by decide) (r := 57) rfl dd_M_nightsBy_55 ?_
    refine mj_iconst (pc := 58) (v := (0 : Int32)) (by decide) dd_M_nightsBy_58 ?_
    refine mj_aload_n (pc := 59) (i := 0) rfl dd_M_nightsBy_59 ?_
    refine mj_iload_n (pc := 60) (i := 2) rfl dd_M_nightsBy_60 ?_
    refine mj_iconst (pc := 61) (v := (0 : Int32)) (by decide) dd_M_nightsBy_61 ?_
    refine mj_callVI (pc := 62) (idx := 248) (b := 48) (As := [.int x2, .int (0 : Int32)]) (st := [.int (0 : Int32), .ref 57]) sh_48 cl_12 ev_M_ofTale ql_M_248 rfl (Nat.le_of_ble_eq_true rfl) (T_M_ofTale (g := g) e (by omega) x2 (0 : Int32) q4.2) dd_M_nightsBy_62 (fun q7 hq7 => ?_)
    refine mj_iastK (pc := 65) (j := 0) sh_57 (by decide) rfl dd_M_nightsBy_65 (fun M8 _ => ?_)
    refine mj_aload_n (pc := 66) (i := 0) rfl dd_M_nightsBy_66 ?_
    refine mj_getR (pc := 67) (b := 48) (k := 15) qf_M_34 sh_48 cl_12 rfl (by decide) (r := 57) rfl dd_M_nightsBy_67 ?_
    refine mj_iconst (pc := 70) (v := (1 : Int32)) (by decide) dd_M_nightsBy_70 ?_
    refine mj_iload_n (pc := 71) (i := 3) rfl dd_M_nightsBy_71 ?_
    refine mj_iastK (pc := 72) (j := 1) sh_57 (by decide) rfl dd_M_nightsBy_72 (fun M9 _ => ?_)
    refine mj_aload_n (pc := 73) (i := 0) rfl dd_M_nightsBy_73 ?_
    refine mj_getR (pc := 74) (b := 48) (k := 15) qf_M_34 sh_48 cl_12 rfl (by decide) (r := 57) rfl dd_M_nightsBy_74 ?_
    refine mj_iconst (pc := 77) (v := (2 : Int32)) (by decide) dd_M_nightsBy_77 ?_
    refine mj_aload_n (pc := 78) (i := 0) rfl dd_M_nightsBy_78 ?_
    refine mj_iload_n (pc := 79) (i := 1) rfl dd_M_nightsBy_79 ?_
    refine mj_iconst (pc := 80) (v := (1 : Int32)) (by decide) dd_M_nightsBy_80 ?_
    refine mj_callVI (pc := 81) (idx := 251) (b := 48) (As := [.int x1, .int (1 : Int32)]) (st := [.int (2 : Int32), .ref 57]) sh_48 cl_12 ev_M_ofHouse ql_M_251 rfl (Nat.le_of_ble_eq_true rfl) (T_M_ofHouse (g := g) e (by omega) x1 (1 : Int32) M9) dd_M_nightsBy_81 (fun q10 hq10 => ?_)
    refine mj_iastK (pc := 84) (j := 2) sh_57 (by decide) rfl dd_M_nightsBy_84 (fun M11 _ => ?_)
    refine mj_aload_n (pc := 85) (i := 0) rfl dd_M_nightsBy_85 ?_
    refine mj_getR (pc := 86) (b := 48) (k := 15) qf_M_34 sh_48 cl_12 rfl (by decide) (r := 57) rfl dd_M_nightsBy_86 ?_
    refine mj_iconst (pc := 89) (v := (3 : Int32)) (by decide) dd_M_nightsBy_89 ?_
    refine mj_iload (pc := 90) (i := 4) rfl dd_M_nightsBy_90 ?_
    refine mj_iastK (pc := 92) (j := 3) sh_57 (by decide) rfl dd_M_nightsBy_92 (fun M12 _ => ?_)
    refine mj_aload_n (pc := 93) (i := 0) rfl dd_M_nightsBy_93 ?_
    refine mj_getR (pc := 94) (b := 48) (k := 15) qf_M_34 sh_48 cl_12 rfl (by decide) (r := 57) rfl dd_M_nightsBy_94 ?_
    refine mj_iconst (pc := 97) (v := (4 : Int32)) (by decide) dd_M_nightsBy_97 ?_
    refine mj_aload_n (pc := 98) (i := 0) rfl dd_M_nightsBy_98 ?_
    refine mj_iload_n (pc := 99) (i := 1) rfl dd_M_nightsBy_99 ?_
    refine mj_iconst (pc := 100) (v := (2 : Int32)) (by decide) dd_M_nightsBy_100 ?_
    refine mj_callVI (pc := 101) (idx := 251) (b := 48) (As := [.int x1, .int (2 : Int32)]) (st := [.int (4 : Int32), .ref 57]) sh_48 cl_12 ev_M_ofHouse ql_M_251 rfl (Nat.le_of_ble_eq_true rfl) (T_M_ofHouse (g := g) e (by omega) x1 (2 : Int32) M12) dd_M_nightsBy_101 (fun q13 hq13 => ?_)
    refine mj_iastK (pc := 104) (j := 4) sh_57 (by decide) rfl dd_M_nightsBy_104 (fun M14 _ => ?_)
    refine mj_aload_n (pc := 105) (i := 0) rfl dd_M_nightsBy_105 ?_
    refine mj_getR (pc := 106) (b := 48) (k := 15) qf_M_34 sh_48 cl_12 rfl (by decide) (r := 57) rfl dd_M_nightsBy_106 ?_
    refine mj_iconst (pc := 109) (v := (5 : Int32)) (by decide) dd_M_nightsBy_109 ?_
    refine mj_aload_n (pc := 110) (i := 0) rfl dd_M_nightsBy_110 ?_
    refine mj_iload_n (pc := 111) (i := 2) rfl dd_M_nightsBy_111 ?_
    refine mj_iconst (pc := 112) (v := (2 : Int32)) (by decide) dd_M_nightsBy_112 ?_
    refine mj_callVI (pc := 113) (idx := 248) (b := 48) (As := [.int x2, .int (2 : Int32)]) (st := [.int (5 : Int32), .ref 57]) sh_48 cl_12 ev_M_ofTale ql_M_248 rfl (Nat.le_of_ble_eq_true rfl) (T_M_ofTale (g := g) e (by omega) x2 (2 : Int32) M14) dd_M_nightsBy_113 (fun q15 hq15 => ?_)
    refine mj_iastK (pc := 116) (j := 5) sh_57 (by decide) rfl dd_M_nightsBy_116 (fun M16 _ => ?_)
    refine mj_aload_n (pc := 117) (i := 0) rfl dd_M_nightsBy_117 ?_
    refine mj_aload_n (pc := 118) (i := 0) rfl dd_M_nightsBy_118 ?_
    refine mj_getI (pc := 119) (b := 48) (k := 29) qf_M_64 sh_48 cl_12 rfl (by decide) rfl dd_M_nightsBy_119 ?_
    refine mj_callVI (pc := 122) (idx := 270) (b := 48) (As := [.int (M16 48 29)]) (st := []) sh_48 cl_12 ev_M_worthOf ql_M_270 rfl (Nat.le_of_ble_eq_true rfl) (T_M_worthOf (g := g) N e (by omega) (M16 48 29) M16) dd_M_nightsBy_122 (fun q17 hq17 => ?_)
    refine mj_istore (pc := 125) (by decide) dd_M_nightsBy_125 ?_
    refine mj_L (L' := [(5, .int q17.1)]) [0] rfl ?_
    refine mj_L (L' := [(5, .int q17.1)]) [0] rfl ?_
    exact T_M_nightsBy_b127 (g := g) N e he q17.1 q17.2
def F_M_nightsBy (N : Nat) (x1 : Int32) (x2 : Int32) (x3 : Int32) (x4 : Int32) (M : mj_M) : Option (Int32 × mj_M) :=
    if (M 62 3) ≤ x4 then
     (F_M_nightsBy_b21 N x1 x2 x3 x4 (0 : Int32) M)
     else
     ((F_M_ofTale x2 (0 : Int32) M).bind (fun q2 =>
     F_M_nightsBy_b21 N x1 x2 x3 x4 q2.1 q2.2))
set_option maxRecDepth 20000 in
theorem T_M_nightsBy {g : mj_G} (N : Nat) : ∀ d, 5 ≤ d → ∀ (x1 : Int32) (x2 : Int32) (x3 : Int32) (x4 : Int32) (M : mj_M), mj_Mt g (mj_qI g) d y_M_nightsBy c_M_nightsBy 6 (some .int) [.ref 48, .int x1, .int x2, .int x3, .int x4] M (F_M_nightsBy N x1 x2 x3 x4 M) := by
  intro d hd x1 x2 x3 x4 M
  obtain ⟨e, rfl⟩ : ∃ e, d = e + 1 := ⟨d - 1, by omega⟩
  have he : 4 ≤ e := by omega
  refine mj_met (by decide +kernel) (Nat.le_of_ble_eq_true rfl) ?_
  unfold F_M_nightsBy
  refine mj_L (L' := [(0, .ref 48), (1, .int x1), (2, .int x2), (3, .int x3), (4, .int x4)]) [0, 1, 2, 3, 4] rfl ?_
  refine mj_iload (pc := 0) (i := 4) rfl dd_M_nightsBy_0 ?_
  refine mj_aload_n (pc := 2) (i := 0) rfl dd_M_nightsBy_2 ?_
  refine mj_getR (pc := 3) (b := 48) (k := 22) qf_M_49 sh_48 cl_12 rfl (by decide) (r := 62) rfl dd_M_nightsBy_3 ?_
  refine mj_iconst (pc := 6) (v := (3 : Int32)) (by decide) dd_M_nightsBy_6 ?_
  refine mj_ialdK (pc := 7) (j := 3) sh_62 (by decide) rfl dd_M_nightsBy_7 ?_
  refine mj_icmp_ge (pc := 8) (tgt := 20) dd_M_nightsBy_8 rfl (fun h1 => ?_) (fun h1 => ?_)
  · refine mj_iconst (pc := 20) (v := (0 : Int32)) (by decide) dd_M_nightsBy_20 ?_
    refine mj_L (L' := [(0, .ref 48), (1, .int x1), (2, .int x2), (3, .int x3), (4, .int x4)]) [0, 1, 2, 3, 4] rfl ?_
    exact T_M_nightsBy_b21 (g := g) N e he x1 x2 x3 x4 (0 : Int32) M
  · refine mj_aload_n (pc := 11) (i := 0) rfl dd_M_nightsBy_11 ?_
    refine mj_iload_n (pc := 12) (i := 2) rfl dd_M_nightsBy_12 ?_
    refine mj_iconst (pc := 13) (v := (0 : Int32)) (by decide) dd_M_nightsBy_13 ?_
    refine mj_callVI (pc := 14) (idx := 248) (b := 48) (As := [.int x2, .int (0 : Int32)]) (st := []) sh_48 cl_12 ev_M_ofTale ql_M_248 rfl (Nat.le_of_ble_eq_true rfl) (T_M_ofTale (g := g) e (by omega) x2 (0 : Int32) M) dd_M_nightsBy_14 (fun q2 hq2 => ?_)
    refine mj_goto (pc := 17) (tgt := 21) dd_M_nightsBy_17 rfl ?_
    refine mj_L (L' := [(0, .ref 48), (1, .int x1), (2, .int x2), (3, .int x3), (4, .int x4)]) [0, 1, 2, 3, 4] rfl ?_
    exact T_M_nightsBy_b21 (g := g) N e he x1 x2 x3 x4 q2.1 q2.2
