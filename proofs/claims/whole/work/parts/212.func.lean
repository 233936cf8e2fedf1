/-! ===== functions and their proofs ===== -/
def F_W_ties_b42 (M : mj_M) : Option (Int32 × mj_M) :=
    (F_W_refuse (2 : Int32) M).bind (fun q12 =>
     some (q12.1, q12.2))
set_option maxRecDepth 20000 in
theorem T_W_ties_b42 {g : mj_G} (e : Nat) (he : 2 ≤ e) (M : mj_M) : mj_X g (mj_qI g) "WinterTellers" c_W_ties 2 (some .int) e 42 [(0, .ref 0)] [] M (F_W_ties_b42 M) := by
  unfold F_W_ties_b42
  refine mj_aload_n (pc := 42) (i := 0) rfl dd_W_ties_42 ?_
  refine mj_iconst (pc := 43) (v := (2 : Int32)) (by decide) dd_W_ties_43 ?_
  refine mj_callVI (pc := 44) (idx := 195) (b := 0) (As := [.int (2 : Int32)]) (st := []) sh_0 cl_11 ev_W_refuse ql_W_195 rfl (Nat.le_of_ble_eq_true rfl) (T_W_refuse (g := g) e (by omega) (2 : Int32) M) dd_W_ties_44 (fun q12 hq12 => ?_)
  exact mj_iret dd_W_ties_47 rfl rfl
def F_W_ties (x1 : Int32) (M : mj_M) : Option (Int32 × mj_M) :=
    (F_Coast_hasTale x1 M).bind (fun q1 =>
     if q1.1 = (0) then
     ((F_W_refuse (0 : Int32) q1.2).bind (fun q11 =>
     some (q11.1, q11.2)))
     else
     ((F_Stand_owns x1 q1.2).bind (fun q3 =>
     if q3.1 = (0) then
     (F_W_ties_b42 q3.2)
     else
     (mj_ck x1 6 (
     if (q3.2 21 x1.toNatClampNeg) < (9 : Int32) then
     (if (2 : Int32) ≤ (q3.2 20 2) then
     ((F_Past_keep_c20 q3.2).bind (fun q7 =>
     mj_lt (mj_u q7 20 2 ((q7 20 2) - (2 : Int32))) (fun M8 =>
     mj_ck x1 6 (
     mj_ck x1 6 (mj_lt (mj_u M8 21 x1.toNatClampNeg ((M8 21 x1.toNatClampNeg) + (1 : Int32))) (fun M9 =>
     mj_ck x1 6 (
     some (M9 21 x1.toNatClampNeg, M9))))))))
     else
     ((F_W_refuse (3 : Int32) q3.2).bind (fun q10 =>
     some (q10.1, q10.2))))
     else
     (F_W_ties_b42 q3.2))))))
set_option maxRecDepth 20000 in
theorem T_W_ties {g : mj_G} : ∀ d, 3 ≤ d → ∀ (x1 : Int32) (M : mj_M), mj_Mt g (mj_qI g) d y_W_ties c_W_ties 2 (some .int) [.ref 0, .int x1] M (F_W_ties x1 M) := by
  intro d hd x1 M
  obtain ⟨e, rfl⟩ : ∃ e, d = e + 1 := ⟨d - 1, by omega⟩
  have he : 2 ≤ e := by omega
  refine mj_met (by decide +kernel) (Nat.le_of_ble_eq_true rfl) ?_
  unfold F_W_ties
  refine mj_L (L' := [(0, .ref 0), (1, .int x1)]) [0, 1] rfl ?_
  refine mj_aload_n (pc := 0) (i := 0) rfl dd_W_ties_0 ?_
  refine mj_getR (pc := 1) (b := 0) (k := 4) qf_W_42 sh_0 cl_11 rfl (by decide) (r := 13) rfl dd_W_ties_1 ?_
  refine mj_iload_n (pc := 4) (i := 1) rfl dd_W_ties_4 ?_
  refine mj_callVI (pc := 5) (idx := 163) (b := 13) (As := [.int x1]) (st := []) sh_13 cl_0 ev_Coast_hasTale ql_W_163 rfl (Nat.le_of_ble_eq_true rfl) (T_Coast_hasTale (g := g) e (by omega) x1 M) dd_W_ties_5 (fun q1 hq1 => ?_)
  refine mj_if_ne (pc := 8) (tgt := 17) dd_W_ties_8 rfl (fun h2 => ?_) (fun h2 => ?_)
  · refine mj_aload_n (pc := 11) (i := 0) rfl dd_W_ties_11 ?_
    refine mj_iconst (pc := 12) (v := (0 : Int32)) (by decide) dd_W_ties_12 ?_
    refine mj_callVI (pc := 13) (idx := 195) (b := 0) (As := [.int (0 : Int32)]) (st := []) sh_0 cl_11 ev_W_refuse ql_W_195 rfl (Nat.le_of_ble_eq_true rfl) (T_W_refuse (g := g) e (by omega) (0 : Int32) q1.2) dd_W_ties_13 (fun q11 hq11 => ?_)
    exact mj_iret dd_W_ties_16 rfl rfl
  · refine mj_aload_n (pc := 17) (i := 0) rfl dd_W_ties_17 ?_
    refine mj_getR (pc := 18) (b := 0) (k := 5) qf_W_49 sh_0 cl_11 rfl (by decide) (r := 20) rfl dd_W_ties_18 ?_
    refine mj_iload_n (pc := 21) (i := 1) rfl dd_W_ties_21 ?_
    refine mj_callVI (pc := 22) (idx := 178) (b := 20) (As := [.int x1]) (st := []) sh_20 cl_8 ev_Stand_owns ql_W_178 rfl (Nat.le_of_ble_eq_true rfl) (T_Stand_owns (g := g) e (by omega) x1 q1.2) dd_W_ties_22 (fun q3 hq3 => ?_)
    refine mj_if_eq (pc := 25) (tgt := 42) dd_W_ties_25 rfl (fun h4 => ?_) (fun h4 => ?_)
    · refine mj_L (L' := [(0, .ref 0)]) [0] rfl ?_
      exact T_W_ties_b42 (g := g) e he q3.2
    · refine mj_aload_n (pc := 28) (i := 0) rfl dd_W_ties_28 ?_
      refine mj_getR (pc := 29) (b := 0) (k := 5) qf_W_49 sh_0 cl_11 rfl (by decide) (r := 20) rfl dd_W_ties_29 ?_
      refine mj_getR (pc := 32) (b := 20) (k := 7) qf_W_172 sh_20 cl_8 rfl (by decide) (r := 21) rfl dd_W_ties_32 ?_
      refine mj_iload_n (pc := 35) (i := 1) rfl dd_W_ties_35 ?_
      refine mj_iald (pc := 36) sh_21 dd_W_ties_36 ?_
      refine mj_bipush (pc := 37) (v := (9 : Int32)) (by decide) dd_W_ties_37 ?_
      refine mj_icmp_lt (pc := 39) (tgt := 48) dd_W_ties_39 rfl (fun h5 => ?_) (fun h5 => ?_)
      · refine mj_aload_n (pc := 48) (i := 0) rfl dd_W_ties_48 ?_
        refine mj_getR (pc := 49) (b := 0) (k := 5) qf_W_49 sh_0 cl_11 rfl (by decide) (r := 20) rfl dd_W_ties_49 ?_
        refine mj_getI (pc := 52) (b := 20) (k := 2) qf_W_218 sh_20 cl_8 rfl (by decide) rfl dd_W_ties_52 ?_
        refine mj_iconst (pc := 55) (v := (2 : Int32)) (by decide) dd_W_ties_55 ?_
        refine mj_icmp_ge (pc := 56) (tgt := 65) dd_W_ties_56 rfl (fun h6 => ?_) (fun h6 => ?_)
        · refine mj_aload_n (pc := 65) (i := 0) rfl dd_W_ties_65 ?_
          refine mj_getR (pc := 66) (b := 0) (k := 6) qf_W_56 sh_0 cl_11 rfl (by decide) (r := 24) rfl dd_W_ties_66 ?_
          refine mj_aload_n (pc := 69) (i := 0) rfl dd_W_ties_69 ?_
          refine mj_getR (pc := 70) (b := 0) (k := 5) qf_W_49 sh_0 cl_11 rfl (by decide) (r := 20) rfl dd_W_ties_70 ?_
          refine mj_callVV (pc := 73) (idx := 207) (b := 24) (As := [.ref 20]) (st := []) sh_24 cl_6 ev_Past_keep ql_W_207 rfl (Nat.le_of_ble_eq_true rfl) (T_Past_keep_c20 (g := g) e (by omega) q3.2) dd_W_ties_73 (fun q7 hq7 => ?_)
          refine mj_aload_n (pc := 76) (i := 0) rfl dd_W_ties_76 ?_
          refine mj_getR (pc := 77) (b := 0) (k := 5) qf_W_49 sh_0 cl_11 rfl (by decide) (r := 20) rfl dd_W_ties_77 ?_
          refine mj_dup (pc := 80) rfl dd_W_ties_80 ?_
          refine mj_getI (pc := 81) (b := 20) (k := 2) qf_W_218 sh_20 cl_8 rfl (by decide) rfl dd_W_ties_81 ?_
          refine mj_iconst (pc := 84) (v := (2 : Int32)) (by decide) dd_W_ties_84 ?_
          refine mj_isub (pc := 85) dd_W_ties_85 ?_
          refine mj_putI (pc := 86) (b := 20) (k := 2) qf_W_218 sh_20 cl_8 rfl (by decide) (by decide) rfl rfl rfl dd_W_ties_86 (fun M8 _ => ?_)
          refine mj_aload_n (pc := 89) (i := 0) rfl dd_W_ties_89 ?_
          refine mj_getR (pc := 90) (b := 0) (k := 5) qf_W_49 sh_0 cl_11 rfl (by decide) (r := 20) rfl dd_W_ties_90 ?_
          refine mj_getR (pc := 93) (b := 20) (k := 7) qf_W_172 sh_20 cl_8 rfl (by decide) (r := 21) rfl dd_W_ties_93 ?_
          refine mj_iload_n (pc := 96) (i := 1) rfl dd_W_ties_96 ?_
          refine mj_dup2 (pc := 97) rfl rfl dd_W_ties_97 ?_
          refine mj_iald (pc := 98) sh_21 dd_W_ties_98 ?_
          refine mj_iconst (pc := 99) (v := (1 : Int32)) (by decide) dd_W_ties_99 ?_
          refine mj_iadd (pc := 100) dd_W_ties_100 ?_
          refine mj_iast (pc := 101) sh_21 dd_W_ties_101 (fun M9 _ => ?_)
          refine mj_aload_n (pc := 102) (i := 0) rfl dd_W_ties_102 ?_
          refine mj_getR (pc := 103) (b := 0) (k := 5) qf_W_49 sh_0 cl_11 rfl (by decide) (r := 20) rfl dd_W_ties_103 ?_
          refine mj_getR (pc := 106) (b := 20) (k := 7) qf_W_172 sh_20 cl_8 rfl (by decide) (r := 21) rfl dd_W_ties_106 ?_
          refine mj_iload_n (pc := 109) (i := 1) rfl dd_W_ties_109 ?_
          refine mj_iald (pc := 110) sh_21 dd_W_ties_110 ?_
          exact mj_iret dd_W_ties_111 rfl rfl
        · refine mj_aload_n (pc := 59) (i := 0) rfl dd_W_ties_59 ?_
          refine mj_iconst (pc := 60) (v := (3 : Int32)) (by decide) dd_W_ties_60 ?_
          refine mj_callVI (pc := 61) (idx := 195) (b := 0) (As := [.int (3 : Int32)]) (st := []) sh_0 cl_11 ev_W_refuse ql_W_195 rfl (Nat.le_of_ble_eq_true rfl) (T_W_refuse (g := g) e (by omega) (3 : Int32) q3.2) dd_W_ties_61 (fun q10 hq10 => ?_)
          exact mj_iret dd_W_ties_64 rfl rfl
      · refine mj_L (L' := [(0, .ref 0)]) [0] rfl ?_
        exact T_W_ties_b42 (g := g) e he q3.2
def F_M_ties_b55 (N : Nat) (x1 : Int32) (s1 : Int32) (M : mj_M) : Option (Int32 × mj_M) :=
    (F_M_isRefused s1 M).bind (fun q7 =>
     if q7.1 = (0) then
     ((F_M_keep N q7.2).bind (fun q9 =>
     mj_ck ((36 : Int32) + x1) 229 (
     mj_ck ((36 : Int32) + x1) 229 (mj_lt (mj_u q9 65 ((36 : Int32) + x1).toNatClampNeg ((q9 65 ((36 : Int32) + x1).toNatClampNeg) + (1 : Int32))) (fun M10 =>
     mj_lt (mj_u M10 65 44 ((M10 65 44) - (2 : Int32))) (fun M11 =>
     mj_ck ((36 : Int32) + x1) 229 (
     some (M11 65 ((36 : Int32) + x1).toNatClampNeg, M11))))))))
     else
     (some ((-1 : Int32), q7.2)))
set_option maxRecDepth 20000 in
theorem T_M_ties_b55 {g : mj_G} (N : Nat) (e : Nat) (he : 2 ≤ e) (x1 : Int32) (s1 : Int32) (M : mj_M) : mj_X g (mj_qI g) "WinterTellersModel" c_M_ties 2 (some .int) e 55 [(0, .ref 48), (1, .int x1)] [.int s1, .ref 48] M (F_M_ties_b55 N x1 s1 M) := by
  unfold F_M_ties_b55
  refine mj_callVI (pc := 55) (idx := 318) (b := 48) (As := [.int s1]) (st := []) sh_48 cl_12 ev_M_isRefused ql_M_318 rfl (Nat.le_of_ble_eq_true rfl) (T_M_isRefused (g := g) e (by omega) s1 M) dd_M_ties_55 (fun q7 hq7 => ?_)
  refine mj_if_eq (pc := 58) (tgt := 63) dd_M_ties_58 rfl (fun h8 => ?_) (fun h8 => ?_)
  · refine mj_aload_n (pc := 63) (i := 0) rfl dd_M_ties_63 ?_
    refine mj_callVV (pc := 64) (idx := 321) (b := 48) (As := []) (st := []) sh_48 cl_12 ev_M_keep ql_M_321 rfl (Nat.le_of_ble_eq_true rfl) (T_M_keep (g := g) N e (by omega) q7.2) dd_M_ties_64 (fun q9 hq9 => ?_)
    refine mj_aload_n (pc := 67) (i := 0) rfl dd_M_ties_67 ?_
    refine mj_getR (pc := 68) (b := 48) (k := 27) qf_M_58 sh_48 cl_12 rfl (by decide) (r := 65) rfl dd_M_ties_68 ?_
    refine mj_bipush (pc := 71) (v := (36 : Int32)) (by decide) dd_M_ties_71 ?_
    refine mj_iload_n (pc := 73) (i := 1) rfl dd_M_ties_73 ?_
    refine mj_iadd (pc := 74) dd_M_ties_74 ?_
    refine mj_dup2 (pc := 75) rfl rfl dd_M_ties_75 ?_
    refine mj_iald (pc := 76) sh_65 dd_M_ties_76 ?_
    refine mj_iconst (pc := 77) (v := (1 : Int32)) (by decide) dd_M_ties_77 ?_
    refine mj_iadd (pc := 78) dd_M_ties_78 ?_
    refine mj_iast (pc := 79) sh_65 dd_M_ties_79 (fun M10 _ => ?_)
    refine mj_aload_n (pc := 80) (i := 0) rfl dd_M_ties_80 ?_
    refine mj_getR (pc := 81) (b := 48) (k := 27) qf_M_58 sh_48 cl_12 rfl (by decide) (r := 65) rfl dd_M_ties_81 ?_
    refine mj_bipush (pc := 84) (v := (44 : Int32)) (by decide) dd_M_ties_84 ?_
    refine mj_dup2 (pc := 86) rfl rfl dd_M_ties_86 ?_
    refine mj_ialdK (pc := 87) (j := 44) sh_65 (by decide) rfl dd_M_ties_87 ?_
    refine mj_iconst (pc := 88) (v := (2 : Int32)) (by decide) dd_M_ties_88 ?_
    refine mj_isub (pc := 89) dd_M_ties_89 ?_
    refine mj_iastK (pc := 90) (j := 44) sh_65 (by decide) rfl dd_M_ties_90 (fun M11 _ => ?_)
    refine mj_aload_n (pc := 91) (i := 0) rfl dd_M_ties_91 ?_
    refine mj_getR (pc := 92) (b := 48) (k := 27) qf_M_58 sh_48 cl_12 rfl (by decide) (r := 65) rfl dd_M_ties_92 ?_
    refine mj_bipush (pc := 95) (v := (36 : Int32)) (by decide) dd_M_ties_95 ?_
    refine mj_iload_n (pc := 97) (i := 1) rfl dd_M_ties_97 ?_
    refine mj_iadd (pc := 98) dd_M_ties_98 ?_
    refine mj_iald (pc := 99) sh_65 dd_M_ties_99 ?_
    exact mj_iret dd_M_ties_100 rfl rfl
  · refine mj_iconst (pc := 61) (v := (-1 : Int32)) (by decide) dd_M_ties_61 ?_
    exact mj_iret dd_M_ties_62 rfl rfl
def F_M_ties_b35 (N : Nat) (x1 : Int32) (M : mj_M) : Option (Int32 × mj_M) :=
    F_M_ties_b55 N x1 (2 : Int32) M
set_option maxRecDepth 20000 in
theorem T_M_ties_b35 {g : mj_G} (N : Nat) (e : Nat) (he : 2 ≤ e) (x1 : Int32) (M : mj_M) : mj_X g (mj_qI g) "WinterTellersModel" c_M_ties 2 (some .int) e 35 [(0, .ref 48), (1, .int x1)] [.ref 48] M (F_M_ties_b35 N x1 M) := by
  unfold F_M_ties_b35
  refine mj_iconst (pc := 35) (v := (2 : Int32)) (by decide) dd_M_ties_35 ?_
  refine mj_goto (pc := 36) (tgt := 55) dd_M_ties_36 rfl ?_
  refine mj_L (L' := [(0, .ref 48), (1, .int x1)]) [0, 1] rfl ?_
  exact T_M_ties_b55 (g := g) N e he x1 (2 : Int32) M
def F_M_ties (N : Nat) (x1 : Int32) (M : mj_M) : Option (Int32 × mj_M) :=
    (F_M_isTale x1 M).bind (fun q1 =>
     if q1.1 = (0) then
     (F_M_ties_b55 N x1 (0 : Int32) q1.2)
     else
     ((F_M_owns x1 q1.2).bind (fun q3 =>
     if q3.1 = (0) then
     (F_M_ties_b35 N x1 q3.2)
     else
     (mj_ck ((36 : Int32) + x1) 229 (
     if (q3.2 65 ((36 : Int32) + x1).toNatClampNeg) = (9 : Int32) then
     (F_M_ties_b35 N x1 q3.2)
     else
     (if (2 : Int32) ≤ (q3.2 65 44) then
     (F_M_ties_b55 N x1 (-1 : Int32) q3.2)
     else
     (F_M_ties_b55 N x1 (3 : Int32) q3.2)))))))
set_option maxRecDepth 20000 in
theorem T_M_ties {g : mj_G} (N : Nat) : ∀ d, 3 ≤ d → ∀ (x1 : Int32) (M : mj_M), mj_Mt g (mj_qI g) d y_M_ties c_M_ties 2 (some .int) [.ref 48, .int x1] M (F_M_ties N x1 M) := by
  intro d hd x1 M
  obtain ⟨e, rfl⟩ : ∃ e, d = e + 1 := ⟨d - 1, by omega⟩
  have he : 2 ≤ e := by omega
  refine mj_met (by decide +kernel) (Nat.le_of_ble_eq_true rfl) ?_
  unfold F_M_ties
  refine mj_L (L' := [(0, .ref 48), (1, .int x1)]) [0, 1] rfl ?_
  refine mj_aload_n (pc := 0) (i := 0) rfl dd_M_ties_0 ?_
  refine mj_aload_n (pc := 1) (i := 0) rfl dd_M_ties_1 ?_
  refine mj_iload_n (pc := 2) (i := 1) rfl dd_M_ties_2 ?_
  refine mj_callVI (pc := 3) (idx := 306) (b := 48) (As := [.int x1]) (st := [.ref 48]) sh_48 cl_12 ev_M_isTale ql_M_306 rfl (Nat.le_of_ble_eq_true rfl) (T_M_isTale (g := g) e (by omega) x1 M) dd_M_ties_3 (fun q1 hq1 => ?_)
  refine mj_if_ne (pc := 6) (tgt := 13) dd_M_ties_6 rfl (fun h2 => ?_) (fun h2 => ?_)
  · refine mj_iconst (pc := 9) (v := (0 : Int32)) (by decide) dd_M_ties_9 ?_
    refine mj_goto (pc := 10) (tgt := 55) dd_M_ties_10 rfl ?_
    refine mj_L (L' := [(0, .ref 48), (1, .int x1)]) [0, 1] rfl ?_
    exact T_M_ties_b55 (g := g) N e he x1 (0 : Int32) q1.2
  · refine mj_aload_n (pc := 13) (i := 0) rfl dd_M_ties_13 ?_
    refine mj_iload_n (pc := 14) (i := 1) rfl dd_M_ties_14 ?_
    refine mj_callVI (pc := 15) (idx := 309) (b := 48) (As := [.int x1]) (st := [.ref 48]) sh_48 cl_12 ev_M_owns ql_M_309 rfl (Nat.le_of_ble_eq_true rfl) (T_M_owns (g := g) e (by omega) x1 q1.2) dd_M_ties_15 (fun q3 hq3 => ?_)
    refine mj_if_eq (pc := 18) (tgt := 35) dd_M_ties_18 rfl (fun h4 => ?_) (fun h4 => ?_)
    · refine mj_L (L' := [(0, .ref 48), (1, .int x1)]) [0, 1] rfl ?_
      exact T_M_ties_b35 (g := g) N e he x1 q3.2
    · refine mj_aload_n (pc := 21) (i := 0) rfl dd_M_ties_21 ?_
      refine mj_getR (pc := 22) (b := 48) (k := 27) qf_M_58 sh_48 cl_12 rfl (by decide) (r := 65) rfl dd_M_ties_22 ?_
      refine mj_bipush (pc := 25) (v := (36 : Int32)) (by decide) dd_M_ties_25 ?_
      refine mj_iload_n (pc := 27) (i := 1) rfl dd_M_ties_27 ?_
      refine mj_iadd (pc := 28) dd_M_ties_28 ?_
      refine mj_iald (pc := 29) sh_65 dd_M_ties_29 ?_
      refine mj_bipush (pc := 30) (v := (9 : Int32)) (by decide) dd_M_ties_30 ?_
      refine mj_icmp_ne (pc := 32) (tgt := 39) dd_M_ties_32 rfl (fun h5 => ?_) (fun h5 => ?_)
      · refine mj_L (L' := [(0, .ref 48), (1, .int x1)]) [0, 1] rfl ?_
        exact T_M_ties_b35 (g := g) N e he x1 q3.2
      · refine mj_aload_n (pc := 39) (i := 0) rfl dd_M_ties_39 ?_
        refine mj_getR (pc := 40) (b := 48) (k := 27) qf_M_58 sh_48 cl_12 rfl (by decide) (r := 65) rfl dd_M_ties_40 ?_
        refine mj_bipush (pc := 43) (v := (44 : Int32)) (by decide) dd_M_ties_43 ?_
        refine mj_ialdK (pc := 45) (j := 44) sh_65 (by decide) rfl dd_M_ties_45 ?_
        refine mj_iconst (pc := 46) (v := (2 : Int32)) (by decide) dd_M_ties_46 ?_
        refine mj_icmp_ge (pc := 47) (tgt := 54) dd_M_ties_47 rfl (fun h6 => ?_) (fun h6 => ?_)
        · refine mj_iconst (pc := 54) (v := (-1 : Int32)) (by decide) dd_M_ties_54 ?_
          refine mj_L (L' := [(0, .ref 48), (1, .int x1)]) [0, 1] rfl ?_
          exact T_M_ties_b55 (g := g) N e he x1 (-1 : Int32) q3.2
        · refine mj_iconst (pc := 50) (v := (3 : Int32)) (by decide) dd_M_ties_50 ?_
          refine mj_goto (pc := 51) (tgt := 55) dd_M_ties_51 rfl ?_
          refine mj_L (L' := [(0, .ref 48), (1, .int x1)]) [0, 1] rfl ?_
          exact T_M_ties_b55 (g := g) N e he x1 (3 : Int32) q3.2
def F_Coast_isTold (M : mj_M) : Option (Int32 × mj_M) :=
    if (M 13 0) ≤ (0) then
     (some ((0 : Int32), M))
     else
     (some ((1 : Int32), M))
set_option maxRecDepth 20000 in
theorem T_Coast_isTold {g : mj_G} : ∀ d, 1 ≤ d → ∀ (M : mj_M), mj_Mt g (mj_qI g) d y_Coast_isTold c_Coast_isTold 1 (some .boolean) [.ref 13] M (F_Coast_isTold M) := by
  intro d hd M
  obtain ⟨e, rfl⟩ : ∃ e, d = e + 1 := ⟨d - 1, by omega⟩
  have he : 0 ≤ e := by omega
  refine mj_met (by decide +kernel) (Nat.le_of_ble_eq_true rfl) ?_
  unfold F_Coast_isTold
  refine mj_L (L' := [(0, .ref 13)]) [0] rfl ?_
  refine mj_aload_n (pc := 0) (i := 0) rfl dd_Coast_isTold_0 ?_
  refine mj_getI (pc := 1) (b := 13) (k := 0) qf_Coast_30 sh_13 cl_0 rfl (by decide) rfl dd_Coast_isTold_1 ?_
  refine mj_if_le (pc := 4) (tgt := 11) dd_Coast_isTold_4 rfl (fun h1 => ?_) (fun h1 => ?_)
  · refine mj_iconst (pc := 11) (v := (0 : Int32)) (by decide) dd_Coast_isTold_11 ?_
    exact mj_zret (by decide) dd_Coast_isTold_12 rfl rfl
  · refine mj_iconst (pc := 7) (v := (1 : Int32)) (by decide) dd_Coast_isTold_7 ?_
    refine mj_goto (pc := 8) (tgt := 12) dd_Coast_isTold_8 rfl ?_
    exact mj_zret (by decide) dd_Coast_isTold_12 rfl rfl
def F_W_rest_b40 (s0 : Int32) (M : mj_M) : Option (Int32 × mj_M) :=
    if s0 ≤ (M 20 2) then
     ((F_Stand_hasDays (1 : Int32) M).bind (fun q6 =>
     if q6.1 = (0) then
     ((F_W_refuse (4 : Int32) q6.2).bind (fun q11 =>
     some (q11.1, q11.2)))
     else
     ((F_Past_keep_c20 q6.2).bind (fun q8 =>
     mj_lt (mj_u q8 20 3 ((q8 20 3) + (1 : Int32))) (fun M9 =>
     mj_lt (mj_u M9 20 2 ((M9 20 2) - s0)) (fun M10 =>
     some (M10 20 2, M10)))))))
     else
     ((F_W_refuse (3 : Int32) M).bind (fun q12 =>
     some (q12.1, q12.2)))
set_option maxRecDepth 20000 in
theorem T_W_rest_b40 {g : mj_G} (e : Nat) (he : 2 ≤ e) (s0 : Int32) (M : mj_M) : mj_X g (mj_qI g) "WinterTellers" c_W_rest 2 (some .int) e 40 [(0, .ref 0)] [.int s0] M (F_W_rest_b40 s0 M) := by
  unfold F_W_rest_b40
  refine mj_istore_n (pc := 40) (by decide) dd_W_rest_40 ?_
  refine mj_L (L' := [(1, .int s0), (0, .ref 0)]) [0, 1] rfl ?_
  refine mj_aload_n (pc := 41) (i := 0) rfl dd_W_rest_41 ?_
  refine mj_getR (pc := 42) (b := 0) (k := 5) qf_W_49 sh_0 cl_11 rfl (by decide) (r := 20) rfl dd_W_rest_42 ?_
  refine mj_getI (pc := 45) (b := 20) (k := 2) qf_W_218 sh_20 cl_8 rfl (by decide) rfl dd_W_rest_45 ?_
  refine mj_iload_n (pc := 48) (i := 1) rfl dd_W_rest_48 ?_
  refine mj_icmp_ge (pc := 49) (tgt := 58) dd_W_rest_49 rfl (fun h5 => ?_) (fun h5 => ?_)
  · refine mj_aload_n (pc := 58) (i := 0) rfl dd_W_rest_58 ?_
    refine mj_getR (pc := 59) (b := 0) (k := 5) qf_W_49 sh_0 cl_11 rfl (by decide) (r := 20) rfl dd_W_rest_59 ?_
    refine mj_iconst (pc := 62) (v := (1 : Int32)) (by decide) dd_W_rest_62 ?_
    refine mj_callVI (pc := 63) (idx := 204) (b := 20) (As := [.int (1 : Int32)]) (st := []) sh_20 cl_8 ev_Stand_hasDays ql_W_204 rfl (Nat.le_of_ble_eq_true rfl) (T_Stand_hasDays (g := g) e (by omega) (1 : Int32) M) dd_W_rest_63 (fun q6 hq6 => ?_)
    refine mj_if_ne (pc := 66) (tgt := 75) dd_W_rest_66 rfl (fun h7 => ?_) (fun h7 => ?_)
    · refine mj_aload_n (pc := 69) (i := 0) rfl dd_W_rest_69 ?_
      refine mj_iconst (pc := 70) (v := (4 : Int32)) (by decide) dd_W_rest_70 ?_
      refine mj_callVI (pc := 71) (idx := 195) (b := 0) (As := [.int (4 : Int32)]) (st := []) sh_0 cl_11 ev_W_refuse ql_W_195 rfl (Nat.le_of_ble_eq_true rfl) (T_W_refuse (g := g) e (by omega) (4 : Int32) q6.2) dd_W_rest_71 (fun q11 hq11 => ?_)
      exact mj_iret dd_W_rest_74 rfl rfl
    · refine mj_aload_n (pc := 75) (i := 0) rfl dd_W_rest_75 ?_
      refine mj_getR (pc := 76) (b := 0) (k := 6) qf_W_56 sh_0 cl_11 rfl (by decide) (r := 24) rfl dd_W_rest_76 ?_
      refine mj_aload_n (pc := 79) (i := 0) rfl dd_W_rest_79 ?_
      refine mj_getR (pc := 80) (b := 0) (k := 5) qf_W_49 sh_0 cl_11 rfl (by decide) (r := 20) rfl dd_W_rest_80 ?_
      refine mj_callVV (pc := 83) (idx := 207) (b := 24) (As := [.ref 20]) (st := []) sh_24 cl_6 ev_Past_keep ql_W_207 rfl (Nat.le_of_ble_eq_true rfl) (T_Past_keep_c20 (g := g) e (by omega) q6.2) dd_W_rest_83 (fun q8 hq8 => ?_)
      refine mj_aload_n (pc := 86) (i := 0) rfl dd_W_rest_86 ?_
      refine mj_getR (pc := 87) (b := 0) (k := 5) qf_W_49 sh_0 cl_11 rfl (by decide) (r := 20) rfl dd_W_rest_87 ?_
      refine mj_dup (pc := 90) rfl dd_W_rest_90 ?_
      refine mj_getI (pc := 91) (b := 20) (k := 3) qf_W_224 sh_20 cl_8 rfl (by decide) rfl dd_W_rest_91 ?_
      refine mj_iconst (pc := 94) (v := (1 : Int32)) (by decide) dd_W_rest_94 ?_
      refine mj_iadd (pc := 95) dd_W_rest_95 ?_
      refine mj_putI (pc := 96) (b := 20) (k := 3) qf_W_224 sh_20 cl_8 rfl (by decide) (by decide) rfl rfl rfl dd_W_rest_96 (fun M9 _ => ?_)
      refine mj_aload_n (pc := 99) (i := 0) rfl dd_W_rest_99 ?_
      refine mj_getR (pc := 100) (b := 0) (k := 5) qf_W_49 sh_0 cl_11 rfl (by decide) (r := 20) rfl dd_W_rest_100 ?_
      refine mj_dup (pc := 103) rfl dd_W_rest_103 ?_
      refine mj_getI (pc := 104) (b := 20) (k := 2) qf_W_218 sh_20 cl_8 rfl (by decide) rfl dd_W_rest_104 ?_
      refine mj_iload_n (pc := 107) (i := 1) rfl dd_W_rest_107 ?_
      refine mj_isub (pc := 108) dd_W_rest_108 ?_
      refine mj_putI (pc := 109) (b := 20) (k := 2) qf_W_218 sh_20 cl_8 rfl (by decide) (by decide) rfl rfl rfl dd_W_rest_109 (fun M10 _ => ?_)
      refine mj_aload_n (pc := 112) (i := 0) rfl dd_W_rest_112 ?_
      refine mj_getR (pc := 113) (b := 0) (k := 5) qf_W_49 sh_0 cl_11 rfl (by decide) (r := 20) rfl dd_W_rest_113 ?_
      refine mj_getI (pc := 116) (b := 20) (k := 2) qf_W_218 sh_20 cl_8 rfl (by decide) rfl dd_W_rest_116 ?_
      exact mj_iret dd_W_rest_119 rfl rfl
  · refine mj_aload_n (pc := 52) (i := 0) rfl dd_W_rest_52 ?_
    refine mj_iconst (pc := 53) (v := (3 : Int32)) (by decide) dd_W_rest_53 ?_
    refine mj_callVI (pc := 54) (idx := 195) (b := 0) (As := [.int (3 : Int32)]) (st := []) sh_0 cl_11 ev_W_refuse ql_W_195 rfl (Nat.le_of_ble_eq_true rfl) (T_W_refuse (g := g) e (by omega) (3 : Int32) M) dd_W_rest_54 (fun q12 hq12 => ?_)
    exact mj_iret dd_W_rest_57 rfl rfl
def F_W_rest (M : mj_M) : Option (Int32 × mj_M) :=
    (F_Coast_isTold M).bind (fun q1 =>
     if q1.1 = (0) then
     ((F_W_refuse (0 : Int32) q1.2).bind (fun q4 =>
     some (q4.1, q4.2)))
     else
     (mj_ck (q1.2 20 0) 6 (
     if (5 : Int32) ≤ (q1.2 16 (q1.2 20 0).toNatClampNeg) then
     (F_W_rest_b40 (0 : Int32) q1.2)
     else
     (F_W_rest_b40 (1 : Int32) q1.2))))
set_option maxRecDepth 20000 in
theorem T_W_rest {g : mj_G} : ∀ d, 3 ≤ d → ∀ (M : mj_M), mj_Mt g (mj_qI g) d y_W_rest c_W_rest 2 (some .int) [.ref 0] M (F_W_rest M) := by
  intro d hd M
  obtain ⟨e, rfl⟩ : ∃ e, d = e + 1 := ⟨d - 1, by omega⟩
  have he : 2 ≤ e := by omega
  refine mj_met (by decide +kernel) (Nat.le_of_ble_eq_true rfl) ?_
  unfold F_W_rest
  refine mj_L (L' := [(0, .ref 0)]) [0] rfl ?_
  refine mj_aload_n (pc := 0) (i := 0) rfl dd_W_rest_0 ?_
  refine mj_getR (pc := 1) (b := 0) (k := 4) qf_W_42 sh_0 cl_11 rfl (by decide) (r := 13) rfl dd_W_rest_1 ?_
  refine mj_callVI (pc := 4) (idx := 235) (b := 13) (As := []) (st := []) sh_13 cl_0 ev_Coast_isTold ql_W_235 rfl (Nat.le_of_ble_eq_true rfl) (T_Coast_isTold (g := g) e (by omega) M) dd_W_rest_4 (fun q1 hq1 => ?_)
  refine mj_if_ne (pc := 7) (tgt := 16) dd_W_rest_7 rfl (fun h2 => ?_) (fun h2 => ?_)
  · refine mj_aload_n (pc := 10) (i := 0) rfl dd_W_rest_10 ?_
    refine mj_iconst (pc := 11) (v := (0 : Int32)) (by decide) dd_W_rest_11 ?_
    refine mj_callVI (pc := 12) (idx := 195) (b := 0) (As := [.int (0 : Int32)]) (st := []) sh_0 cl_11 ev_W_refuse ql_W_195 rfl (Nat.le_of_ble_eq_true rfl) (T_W_refuse (g := g) e (by omega) (0 : Int32) q1.2) dd_W_rest_12 (fun q4 hq4 => ?_)
    exact mj_iret dd_W_rest_15 rfl rfl
  · refine mj_aload_n (pc := 16) (i := 0) rfl dd_W_rest_16 ?_
    refine mj_getR (pc := 17) (b := 0) (k := 4) qf_W_42 sh_0 cl_11 rfl (by decide) (r := 13) rfl dd_W_rest_17 ?_
    refine mj_getR (pc := 20) (b := 13) (k := 8) qf_W_160 sh_13 cl_0 rfl (by decide) (r := 16) rfl dd_W_rest_20 ?_
    refine mj_aload_n (pc := 23) (i := 0) rfl dd_W_rest_23 ?_
    refine mj_getR (pc := 24) (b := 0) (k := 5) qf_W_49 sh_0 cl_11 rfl (by decide) (r := 20) rfl dd_W_rest_24 ?_
    refine mj_getI (pc := 27) (b := 20) (k := 0) qf_W_198 sh_20 cl_8 rfl (by decide) rfl dd_W_rest_27 ?_
    refine mj_iald (pc := 30) sh_16 dd_W_rest_30 ?_
    refine mj_iconst (pc := 31) (v := (5 : Int32)) (by decide) dd_W_rest_31 ?_
    refine mj_icmp_ge (pc := 32) (tgt := 39) dd_W_rest_32 rfl (fun h3 => ?_) (fun h3 => ?_)
    · refine mj_iconst (pc := 39) (v := (0 : Int32)) (by decide) dd_W_rest_39 ?_
      refine mj_L (L' := [(0, .ref 0)]) [0] rfl ?_
      exact T_W_rest_b40 (g := g) e he (0 : Int32) q1.2
    · refine mj_iconst (pc := 35) (v := (1 : Int32)) (by decide) dd_W_rest_35 ?_
      refine mj_goto (pc := 36) (tgt := 40) dd_W_rest_36 rfl ?_
      refine mj_L (L' := [(0, .ref 0)]) [0] rfl ?_
      exact T_W_rest_b40 (g := g) e he (1 : Int32) q1.2
def F_M_rest_b69 (N : Nat) (x1 : Int32) (s1 : Int32) (M : mj_M) : Option (Int32 × mj_M) :=
    (F_M_isRefused s1 M).bind (fun q8 =>
     if q8.1 = (0) then
     ((F_M_keep N q8.2).bind (fun q10 =>
     mj_lt (mj_u q10 65 44 ((q10 65 44) - x1)) (fun M11 =>
     mj_lt (mj_u M11 65 45 ((M11 65 45) + (1 : Int32))) (fun M12 =>
     some (M12 65 44, M12)))))
     else
     (some ((-1 : Int32), q8.2)))
set_option maxRecDepth 20000 in
theorem T_M_rest_b69 {g : mj_G} (N : Nat) (e : Nat) (he : 1 ≤ e) (x1 : Int32) (s1 : Int32) (M : mj_M) : mj_X g (mj_qI g) "WinterTellersModel" c_M_rest 2 (some .int) e 69 [(0, .ref 48), (1, .int x1)] [.int s1, .ref 48] M (F_M_rest_b69 N x1 s1 M) := by
  unfold F_M_rest_b69
  refine mj_callVI (pc := 69) (idx := 318) (b := 48) (As := [.int s1]) (st := []) sh_48 cl_12 ev_M_isRefused ql_M_318 rfl (Nat.le_of_ble_eq_true rfl) (T_M_isRefused (g := g) e (by omega) s1 M) dd_M_rest_69 (fun q8 hq8 => ?_)
  refine mj_if_eq (pc := 72) (tgt := 77) dd_M_rest_72 rfl (fun h9 => ?_) (fun h9 => ?_)
  · refine mj_aload_n (pc := 77) (i := 0) rfl dd_M_rest_77 ?_
    refine mj_callVV (pc := 78) (idx := 321) (b := 48) (As := []) (st := []) sh_48 cl_12 ev_M_keep ql_M_321 rfl (Nat.le_of_ble_eq_true rfl) (T_M_keep (g := g) N e (by omega) q8.2) dd_M_rest_78 (fun q10 hq10 => ?_)
    refine mj_aload_n (pc := 81) (i := 0) rfl dd_M_rest_81 ?_
    refine mj_getR (pc := 82) (b := 48) (k := 27) qf_M_58 sh_48 cl_12 rfl (by decide) (r := 65) rfl dd_M_rest_82 ?_
    refine mj_bipush (pc := 85) (v := (44 : Int32)) (by decide) dd_M_rest_85 ?_
    refine mj_dup2 (pc := 87) rfl rfl dd_M_rest_87 ?_
    refine mj_ialdK (pc := 88) (j := 44) sh_65 (by decide) rfl dd_M_rest_88 ?_
    refine mj_iload_n (pc := 89) (i := 1) rfl dd_M_rest_89 ?_
    refine mj_isub (pc := 90) dd_M_rest_90 ?_
    refine mj_iastK (pc := 91) (j := 44) sh_65 (by decide) rfl dd_M_rest_91 (fun M11 _ => ?_)
    refine mj_aload_n (pc := 92) (i := 0) rfl dd_M_rest_92 ?_
    refine mj_getR (pc := 93) (b := 48) (k := 27) qf_M_58 sh_48 cl_12 rfl (by decide) (r := 65) rfl dd_M_rest_93 ?_
    refine mj_bipush (pc := 96) (v := (45 : Int32)) (by decide) dd_M_rest_96 ?_
    refine mj_dup2 (pc := 98) rfl rfl dd_M_rest_98 ?_
    refine mj_ialdK (pc := 99) (j := 45) sh_65 (by decide) rfl dd_M_rest_99 ?_
    refine mj_iconst (pc := 100) (v := (1 : Int32)) (by decide) dd_M_rest_100 ?_
    refine mj_iadd (pc := 101) dd_M_rest_101 ?_
    refine mj_iastK (pc := 102) (j := 45) sh_65 (by decide) rfl dd_M_rest_102 (fun M12 _ => ?_)
    refine mj_aload_n (pc := 103) (i := 0) rfl dd_M_rest_103 ?_
    refine mj_getR (pc := 104) (b := 48) (k := 27) qf_M_58 sh_48 cl_12 rfl (by decide) (r := 65) rfl dd_M_rest_104 ?_
    refine mj_bipush (pc := 107) (v := (44 : Int32)) (by decide) dd_M_rest_107 ?_
    refine mj_ialdK (pc := 109) (j := 44) sh_65 (by decide) rfl dd_M_rest_109 ?_
    exact mj_iret dd_M_rest_110 rfl rfl
  · refine mj_iconst (pc := 75) (v := (-1 : Int32)) (by decide) dd_M_rest_75 ?_
    exact mj_iret dd_M_rest_76 rfl rfl
def F_M_rest_b28 (N : Nat) (s0 : Int32) (M : mj_M) : Option (Int32 × mj_M) :=
    if (M 48 25) = (0) then
     (F_M_rest_b69 N s0 (0 : Int32) M)
     else
     (if s0 ≤ (M 65 44) then
     ((F_M_isLate (1 : Int32) M).bind (fun q6 =>
     if q6.1 = (0) then
     (F_M_rest_b69 N s0 (-1 : Int32) q6.2)
     else
     (F_M_rest_b69 N s0 (4 : Int32) q6.2)))
     else
     (F_M_rest_b69 N s0 (3 : Int32) M))
set_option maxRecDepth 20000 in
theorem T_M_rest_b28 {g : mj_G} (N : Nat) (e : Nat) (he : 1 ≤ e) (s0 : Int32) (M : mj_M) : mj_X g (mj_qI g) "WinterTellersModel" c_M_rest 2 (some .int) e 28 [(0, .ref 48)] [.int s0] M (F_M_rest_b28 N s0 M) := by
  unfold F_M_rest_b28
  refine mj_istore_n (pc := 28) (by decide) dd_M_rest_28 ?_
  refine mj_L (L' := [(1, .int s0), (0, .ref 48)]) [0, 1] rfl ?_
  refine mj_aload_n (pc := 29) (i := 0) rfl dd_M_rest_29 ?_
  refine mj_aload_n (pc := 30) (i := 0) rfl dd_M_rest_30 ?_
  refine mj_getI (pc := 31) (b := 48) (k := 25) qf_M_242 sh_48 cl_12 rfl (by decide) rfl dd_M_rest_31 ?_
  refine mj_if_ne (pc := 34) (tgt := 41) dd_M_rest_34 rfl (fun h4 => ?_) (fun h4 => ?_)
  · refine mj_iconst (pc := 37) (v := (0 : Int32)) (by decide) dd_M_rest_37 ?_
    refine mj_goto (pc := 38) (tgt := 69) dd_M_rest_38 rfl ?_
    refine mj_L (L' := [(0, .ref 48), (1, .int s0)]) [1, 0] rfl ?_
    exact T_M_rest_b69 (g := g) N e he s0 (0 : Int32) M
  · refine mj_aload_n (pc := 41) (i := 0) rfl dd_M_rest_41 ?_
    refine mj_getR (pc := 42) (b := 48) (k := 27) qf_M_58 sh_48 cl_12 rfl (by decide) (r := 65) rfl dd_M_rest_42 ?_
    refine mj_bipush (pc := 45) (v := (44 : Int32)) (by decide) dd_M_rest_45 ?_
    refine mj_ialdK (pc := 47) (j := 44) sh_65 (by decide) rfl dd_M_rest_47 ?_
    refine mj_iload_n (pc := 48) (i := 1) rfl dd_M_rest_48 ?_
    refine mj_icmp_ge (pc := 49) (tgt := 56) dd_M_rest_49 rfl (fun h5 => ?_) (fun h5 => ?_)
    · refine mj_aload_n (pc := 56) (i := 0) rfl dd_M_rest_56 ?_
      refine mj_iconst (pc := 57) (v := (1 : Int32)) (by decide) dd_M_rest_57 ?_
      refine mj_callVI (pc := 58) (idx := 312) (b := 48) (As := [.int (1 : Int32)]) (st := [.ref 48]) sh_48 cl_12 ev_M_isLate ql_M_312 rfl (Nat.le_of_ble_eq_true rfl) (T_M_isLate (g := g) e (by omega) (1 : Int32) M) dd_M_rest_58 (fun q6 hq6 => ?_)
      refine mj_if_eq (pc := 61) (tgt := 68) dd_M_rest_61 rfl (fun h7 => ?_) (fun h7 => ?_)
      · refine mj_iconst (pc := 68) (v := (-1 : Int32)) (by decide) dd_M_rest_68 ?_
        refine mj_L (L' := [(0, .ref 48), (1, .int s0)]) [1, 0] rfl ?_
        exact T_M_rest_b69 (g := g) N e he s0 (-1 : Int32) q6.2
      · refine mj_iconst (pc := 64) (v := (4 : Int32)) (by decide) dd_M_rest_64 ?_
        refine mj_goto (pc := 65) (tgt := 69) dd_M_rest_65 rfl ?_
        refine mj_L (L' := [(0, .ref 48), (1, .int s0)]) [1, 0] rfl ?_
        exact T_M_rest_b69 (g := g) N e he s0 (4 : Int32) q6.2
    · refine mj_iconst (pc := 52) (v := (3 : Int32)) (by decide) dd_M_rest_52 ?_
      refine mj_goto (pc := 53) (tgt := 69) dd_M_rest_53 rfl ?_
      refine mj_L (L' := [(0, .ref 48), (1, .int s0)]) [1, 0] rfl ?_
      exact T_M_rest_b69 (g := g) N e he s0 (3 : Int32) M
def F_M_rest_b27 (N : Nat) (M : mj_M) : Option (Int32 × mj_M) :=
    F_M_rest_b28 N (0 : Int32) M
set_option maxRecDepth 20000 in
theorem T_M_rest_b27 {g : mj_G} (N : Nat) (e : Nat) (he : 1 ≤ e) (M : mj_M) : mj_X g (mj_qI g) "WinterTellersModel" c_M_rest 2 (some .int) e 27 [(0, .ref 48)] [] M (F_M_rest_b27 N M) := by
  unfold F_M_rest_b27
  refine mj_iconst (pc := 27) (v := (0 : Int32)) (by decide) dd_M_rest_27 ?_
  refine mj_L (L' := [(0, .ref 48)]) [0] rfl ?_
  exact T_M_rest_b28 (g := g) N e he (0 : Int32) M
def F_M_rest (N : Nat) (M : mj_M) : Option (Int32 × mj_M) :=
    if (M 48 25) ≤ (0) then
     (F_M_rest_b27 N M)
     else
     ((F_M_ofHouse (M 65 42) (2 : Int32) M).bind (fun q2 =>
     if (5 : Int32) ≤ q2.1 then
     (F_M_rest_b27 N q2.2)
     else
     (F_M_rest_b28 N (1 : Int32) q2.2)))
set_option maxRecDepth 20000 in
theorem T_M_rest {g : mj_G} (N : Nat) : ∀ d, 2 ≤ d → ∀ (M : mj_M), mj_Mt g (mj_qI g) d y_M_rest c_M_rest 2 (some .int) [.ref 48] M (F_M_rest N M) := by
  intro d hd M
  obtain ⟨e, rfl⟩ : ∃ e, d = e + 1 := ⟨d - 1, by omega⟩
  have he : 1 ≤ e := by omega
  refine mj_met (by decide +kernel) (Nat.le_of_ble_eq_true rfl) ?_
  unfold F_M_rest
  refine mj_L (L' := [(0, .ref 48)]) [0] rfl ?_
  refine mj_aload_n (pc := 0) (i := 0) rfl dd_M_rest_0 ?_
  refine mj_getI (pc := 1) (b := 48) (k := 25) qf_M_242 sh_48 cl_12 rfl (by decide) rfl dd_M_rest_1 ?_
  refine mj_if_le (pc := 4) (tgt := 27) dd_M_rest_4 rfl (fun h1 => ?_) (fun h1 => ?_)
  · refine mj_L (L' := [(0, .ref 48)]) [0] rfl ?_
    exact T_M_rest_b27 (g := g) N e he M
  · refine mj_aload_n (pc := 7) (i := 0) rfl dd_M_rest_7 ?_
    refine mj_aload_n (pc := 8) (i := 0) rfl dd_M_rest_8 ?_
    refine mj_getR (pc := 9) (b := 48) (k := 27) qf_M_58 sh_48 cl_12 rfl (by decide) (r := 65) rfl dd_M_rest_9 ?_
    refine mj_bipush (pc := 12) (v := (42 : Int32)) (by decide) dd_M_rest_12 ?_
    refine mj_ialdK (pc := 14) (j := 42) sh_65 (by decide) rfl dd_M_rest_14 ?_
    refine mj_iconst (pc := 15) (v := (2 : Int32)) (by decide) dd_M_rest_15 ?_
    refine mj_callVI (pc := 16) (idx := 251) (b := 48) (As := [.int (M 65 42), .int (2 : Int32)]) (st := []) sh_48 cl_12 ev_M_ofHouse ql_M_251 rfl (Nat.le_of_ble_eq_true rfl) (T_M_ofHouse (g := g) e (by omega) (M 65 42) (2 : Int32) M) dd_M_rest_16 (fun q2 hq2 => ?_)
    refine mj_iconst (pc := 19) (v := (5 : Int32)) (by decide) dd_M_rest_19 ?_
    refine mj_icmp_ge (pc := 20) (tgt := 27) dd_M_rest_20 rfl (fun h3 => ?_) (fun h3 => ?_)
    · refine mj_L (L' := [(0, .ref 48)]) [0] rfl ?_
      exact T_M_rest_b27 (g := g) N e he q2.2
    · refine mj_iconst (pc := 23) (v := (1 : Int32)) (by decide) dd_M_rest_23 ?_
      refine mj_goto (pc := 24) (tgt := 28) dd_M_rest_24 rfl ?_
      refine mj_L (L' := [(0, .ref 48)]) [0] rfl ?_
      exact T_M_rest_b28 (g := g) N e he (1 : Int32) q2.2
def F_W_give_b42 (M : mj_M) : Option (Int32 × mj_M) :=
    (F_W_refuse (1 : Int32) M).bind (fun q9 =>
     some (q9.1, q9.2))
set_option maxRecDepth 20000 in
theorem T_W_give_b42 {g : mj_G} (e : Nat) (he : 2 ≤ e) (M : mj_M) : mj_X g (mj_qI g) "WinterTellers" c_W_give 2 (some .int) e 42 [(0, .ref 0)] [] M (F_W_give_b42 M) := by
  unfold F_W_give_b42
  refine mj_aload_n (pc := 42) (i := 0) rfl dd_W_give_42 ?_
  refine mj_iconst (pc := 43) (v := (1 : Int32)) (by decide) dd_W_give_43 ?_
  refine mj_callVI (pc := 44) (idx := 195) (b := 0) (As := [.int (1 : Int32)]) (st := []) sh_0 cl_11 ev_W_refuse ql_W_195 rfl (Nat.le_of_ble_eq_true rfl) (T_W_refuse (g := g) e (by omega) (1 : Int32) M) dd_W_give_44 (fun q9 hq9 => ?_)
  exact mj_iret dd_W_give_47 rfl rfl
def F_W_give (x1 : Int32) (M : mj_M) : Option (Int32 × mj_M) :=
    (F_Coast_isTold M).bind (fun q1 =>
     if q1.1 = (0) then
     ((F_W_refuse (0 : Int32) q1.2).bind (fun q8 =>
     some (q8.1, q8.2)))
     else
     (if x1 < (1 : Int32) then
     (F_W_give_b42 q1.2)
     else
     (if (50 : Int32) < x1 then
     (F_W_give_b42 q1.2)
     else
     (if ((q1.2 20 2) + x1) ≤ (999 : Int32) then
     ((F_Past_keep_c20 q1.2).bind (fun q6 =>
     mj_lt (mj_u q6 20 2 ((q6 20 2) + x1)) (fun M7 =>
     some (M7 20 2, M7))))
     else
     (F_W_give_b42 q1.2)))))
set_option maxRecDepth 20000 in
theorem T_W_give {g : mj_G} : ∀ d, 3 ≤ d → ∀ (x1 : Int32) (M : mj_M), mj_Mt g (mj_qI g) d y_W_give c_W_give 2 (some .int) [.ref 0, .int x1] M (F_W_give x1 M) := by
  intro d hd x1 M
  obtain ⟨e, rfl⟩ : ∃ e, d = e + 1 := ⟨d - 1, by omega⟩
  have he : 2 ≤ e := by omega
  refine mj_met (by decide +kernel) (Nat.le_of_ble_eq_true rfl) ?_
  unfold F_W_give
  refine mj_L (L' := [(0, .ref 0), (1, .int x1)]) [0, 1] rfl ?_
  refine mj_aload_n (pc := 0) (i := 0) rfl dd_W_give_0 ?_
  refine mj_getR (pc := 1) (b := 0) (k := 4) qf_W_42 sh_0 cl_11 rfl (by decide) (r := 13) rfl dd_W_give_1 ?_
  refine mj_callVI (pc := 4) (idx := 235) (b := 13) (As := []) (st := []) sh_13 cl_0 ev_Coast_isTold ql_W_235 rfl (Nat.le_of_ble_eq_true rfl) (T_Coast_isTold (g := g) e (by omega) M) dd_W_give_4 (fun q1 hq1 => ?_)
  refine mj_if_ne (pc := 7) (tgt := 16) dd_W_give_7 rfl (fun h2 => ?_) (fun h2 => ?_)
  · refine mj_aload_n (pc := 10) (i := 0) rfl dd_W_give_10 ?_
    refine mj_iconst (pc := 11) (v := (0 : Int32)) (by decide) dd_W_give_11 ?_
    refine mj_callVI (pc := 12) (idx := 195) (b := 0) (As := [.int (0 : Int32)]) (st := []) sh_0 cl_11 ev_W_refuse ql_W_195 rfl (Nat.le_of_ble_eq_true rfl) (T_W_refuse (g := g) e (by omega) (0 : Int32) q1.2) dd_W_give_12 (fun q8 hq8 => ?_)
    exact mj_iret dd_W_give_15 rfl rfl
  · refine mj_iload_n (pc := 16) (i := 1) rfl dd_W_give_16 ?_
    refine mj_iconst (pc := 17) (v := (1 : Int32)) (by decide) dd_W_give_17 ?_
    refine mj_icmp_lt (pc := 18) (tgt := 42) dd_W_give_18 rfl (fun h3 => ?_) (fun h3 => ?_)
    · refine mj_L (L' := [(0, .ref 0)]) [0] rfl ?_
      exact T_W_give_b42 (g := g) e he q1.2
    · refine mj_iload_n (pc := 21) (i := 1) rfl dd_W_give_21 ?_
      refine mj_bipush (pc := 22) (v := (50 : Int32)) (by decide) dd_W_give_22 ?_
      refine mj_icmp_gt (pc := 24) (tgt := 42) dd_W_give_24 rfl (fun h4 => ?_) (fun h4 => ?_)
      · refine mj_L (L' := [(0, .ref 0)]) [0] rfl ?_
        exact T_W_give_b42 (g := g) e he q1.2
      · refine mj_aload_n (pc := 27) (i := 0) rfl dd_W_give_27 ?_
        refine mj_getR (pc := 28) (b := 0) (k := 5) qf_W_49 sh_0 cl_11 rfl (by decide) (r := 20) rfl dd_W_give_28 ?_
        refine mj_getI (pc := 31) (b := 20) (k := 2) qf_W_218 sh_20 cl_8 rfl (by decide) rfl dd_W_give_31 ?_
        refine mj_iload_n (pc := 34) (i := 1) rfl dd_W_give_34 ?_
        refine mj_iadd (pc := 35) dd_W_give_35 ?_
        refine mj_sipush (pc := 36) (v := (999 : Int32)) (by decide) dd_W_give_36 ?_
        refine mj_icmp_le (pc := 39) (tgt := 48) dd_W_give_39 rfl (fun h5 => ?_) (fun h5 => ?_)
        · refine mj_aload_n (pc := 48) (i := 0) rfl dd_W_give_48 ?_
          refine mj_getR (pc := 49) (b := 0) (k := 6) qf_W_56 sh_0 cl_11 rfl (by decide) (r := 24) rfl dd_W_give_49 ?_
          refine mj_aload_n (pc := 52) (i := 0) rfl dd_W_give_52 ?_
          refine mj_getR (pc := 53) (b := 0) (k := 5) qf_W_49 sh_0 cl_11 rfl (by decide) (r := 20) rfl dd_W_give_53 ?_
          refine mj_callVV (pc := 56) (idx := 207) (b := 24) (As := [.ref 20]) (st := []) sh_24 cl_6 ev_Past_keep ql_W_207 rfl (Nat.le_of_ble_eq_true rfl) (T_Past_keep_c20 (g := g) e (by omega) q1.2) dd_W_give_56 (fun q6 hq6 => ?_)
          refine mj_aload_n (pc := 59) (i := 0) rfl dd_W_give_59 ?_
          refine mj_getR (pc := 60) (b := 0) (k := 5) qf_W_49 sh_0 cl_11 rfl (by decide) (r := 20) rfl dd_W_give_60 ?_
          refine mj_dup (pc := 63) rfl dd_W_give_63 ?_
          refine mj_getI (pc := 64) (b := 20) (k := 2) qf_W_218 sh_20 cl_8 rfl (by decide) rfl dd_W_give_64 ?_
          refine mj_iload_n (pc := 67) (i := 1) rfl dd_W_give_67 ?_
          refine mj_iadd (pc := 68) dd_W_give_68 ?_
          refine mj_putI (pc := 69) (b := 20) (k := 2) qf_W_218 sh_20 cl_8 rfl (by decide) (by decide) rfl rfl rfl dd_W_give_69 (fun M7 _ => ?_)
          refine mj_aload_n (pc := 72) (i := 0) rfl dd_W_give_72 ?_
          refine mj_getR (pc := 73) (b := 0) (k := 5) qf_W_49 sh_0 cl_11 rfl (by decide) (r := 20) rfl dd_W_give_73 ?_
          refine mj_getI (pc := 76) (b := 20) (k := 2) qf_W_218 sh_20 cl_8 rfl (by decide) rfl dd_W_give_76 ?_
          exact mj_iret dd_W_give_79 rfl rfl
        · refine mj_L (L' := [(0, .ref 0)]) [0] rfl ?_
          exact T_W_give_b42 (g := g) e he q1.2
def F_M_give_b42 (N : Nat) (x1 : Int32) (s1 : Int32) (M : mj_M) : Option (Int32 × mj_M) :=
    (F_M_isRefused s1 M).bind (fun q5 =>
     if q5.1 = (0) then
     ((F_M_keep N q5.2).bind (fun q7 =>
     mj_lt (mj_u q7 65 44 ((q7 65 44) + x1)) (fun M8 =>
     some (M8 65 44, M8))))
     else
     (some ((-1 : Int32), q5.2)))
set_option maxRecDepth 20000 in
theorem T_M_give_b42 {g : mj_G} (N : Nat) (e : Nat) (he : 1 ≤ e) (x1 : Int32) (s1 : Int32) (M : mj_M) : mj_X g (mj_qI g) "WinterTellersModel" c_M_give 2 (some .int) e 42 [(0, .ref 48), (1, .int x1)] [.int s1, .ref 48] M (F_M_give_b42 N x1 s1 M) := by
  unfold F_M_give_b42
  refine mj_callVI (pc := 42) (idx := 318) (b := 48) (As := [.int s1]) (st := []) sh_48 cl_12 ev_M_isRefused ql_M_318 rfl (Nat.le_of_ble_eq_true rfl) (T_M_isRefused (g := g) e (by omega) s1 M) dd_M_give_42 (fun q5 hq5 => ?_)
  refine mj_if_eq (pc := 45) (tgt := 50) dd_M_give_45 rfl (fun h6 => ?_) (fun h6 => ?_)
  · refine mj_aload_n (pc := 50) (i := 0) rfl dd_M_give_50 ?_
    refine mj_callVV (pc := 51) (idx := 321) (b := 48) (As := []) (st := []) sh_48 cl_12 ev_M_keep ql_M_321 rfl (Nat.le_of_ble_eq_true rfl) (T_M_keep (g := g) N e (by omega) q5.2) dd_M_give_51 (fun q7 hq7 => ?_)
    refine mj_aload_n (pc := 54) (i := 0) rfl dd_M_give_54 ?_
    refine mj_getR (pc := 55) (b := 48) (k := 27) qf_M_58 sh_48 cl_12 rfl (by decide) (r := 65) rfl dd_M_give_55 ?_
    refine mj_bipush (pc := 58) (v := (44 : Int32)) (by decide) dd_M_give_58 ?_
    refine mj_dup2 (pc := 60) rfl rfl dd_M_give_60 ?_
    refine mj_ialdK (pc := 61) (j := 44) sh_65 (by decide) rfl dd_M_give_61 ?_
    refine mj_iload_n (pc := 62) (i := 1) rfl dd_M_give_62 ?_
    refine mj_iadd (pc := 63) dd_M_give_63 ?_
    refine mj_iastK (pc := 64) (j := 44) sh_65 (by decide) rfl dd_M_give_64 (fun M8 _ => ?_)
    refine mj_aload_n (pc := 65) (i := 0) rfl dd_M_give_65 ?_
    refine mj_getR (pc := 66) (b := 48) (k := 27) qf_M_58 sh_48 cl_12 rfl (by decide) (r := 65) rfl dd_M_give_66 ?_
    refine mj_bipush (pc := 69) (v := (44 : Int32)) (by decide) dd_M_give_69 ?_
    refine mj_ialdK (pc := 71) (j := 44) sh_65 (by decide) rfl dd_M_give_71 ?_
    exact mj_iret dd_M_give_72 rfl rfl
  · refine mj_iconst (pc := 48) (v := (-1 : Int32)) (by decide) dd_M_give_48 ?_
    exact mj_iret dd_M_give_49 rfl rfl
def F_M_give_b37 (N : Nat) (x1 : Int32) (M : mj_M) : Option (Int32 × mj_M) :=
    F_M_give_b42 N x1 (1 : Int32) M
set_option maxRecDepth 20000 in
theorem T_M_give_b37 {g : mj_G} (N : Nat) (e : Nat) (he : 1 ≤ e) (x1 : Int32) (M : mj_M) : mj_X g (mj_qI g) "WinterTellersModel" c_M_give 2 (some .int) e 37 [(0, .ref 48), (1, .int x1)] [.ref 48] M (F_M_give_b37 N x1 M) := by
  unfold F_M_give_b37
  refine mj_iconst (pc := 37) (v := (1 : Int32)) (by decide) dd_M_give_37 ?_
  refine mj_goto (pc := 38) (tgt := 42) dd_M_give_38 rfl ?_
  refine mj_L (L' := [(0, .ref 48), (1, .int x1)]) [0, 1] rfl ?_
  exact T_M_give_b42 (g := g) N e he x1 (1 : Int32) M
def F_M_give (N : Nat) (x1 : Int32) (M : mj_M) : Option (Int32 × mj_M) :=
    if (M 48 25) = (0) then
     (F_M_give_b42 N x1 (0 : Int32) M)
     else
     ((F_M_in x1 (1 : Int32) (50 : Int32) M).bind (fun q2 =>
     if q2.1 = (0) then
     (F_M_give_b37 N x1 q2.2)
     else
     (if ((q2.2 65 44) + x1) ≤ (999 : Int32) then
     (F_M_give_b42 N x1 (-1 : Int32) q2.2)
     else
     (F_M_give_b37 N x1 q2.2))))
set_option maxRecDepth 20000 in
theorem T_M_give {g : mj_G} (N : Nat) : ∀ d, 2 ≤ d → ∀ (x1 : Int32) (M : mj_M), mj_Mt g (mj_qI g) d y_M_give c_M_give 2 (some .int) [.ref 48, .int x1] M (F_M_give N x1 M) := by
  intro d hd x1 M
  obtain ⟨e, rfl⟩ : ∃ e, d = e + 1 := ⟨d - 1, by omega⟩
  have he : 1 ≤ e := by omega
  refine mj_met (by decide +kernel) (Nat.le_of_ble_eq_true rfl) ?_
  unfold F_M_give
  refine mj_L (L' := [(0, .ref 48), (1, .int x1)]) [0, 1] rfl ?_
  refine mj_aload_n (pc := 0) (i := 0) rfl dd_M_give_0 ?_
  refine mj_aload_n (pc := 1) (i := 0) rfl dd_M_give_1 ?_
  refine mj_getI (pc := 2) (b := 48) (k := 25) qf_M_242 sh_48 cl_12 rfl (by decide) rfl dd_M_give_2 ?_
  refine mj_if_ne (pc := 5) (tgt := 12) dd_M_give_5 rfl (fun h1 => ?_) (fun h1 => ?_)
  · refine mj_iconst (pc := 8) (v := (0 : Int32)) (by decide) dd_M_give_8 ?_
    refine mj_goto (pc := 9) (tgt := 42) dd_M_give_9 rfl ?_
    refine mj_L (L' := [(0, .ref 48), (1, .int x1)]) [0, 1] rfl ?_
    exact T_M_give_b42 (g := g) N e he x1 (0 : Int32) M
  · refine mj_iload_n (pc := 12) (i := 1) rfl dd_M_give_12 ?_
    refine mj_iconst (pc := 13) (v := (1 : Int32)) (by decide) dd_M_give_13 ?_
    refine mj_bipush (pc := 14) (v := (50 : Int32)) (by decide) dd_M_give_14 ?_
    refine mj_callSI (pc := 16) (idx := 205) (As := [.int x1, .int (1 : Int32), .int (50 : Int32)]) (st := [.ref 48]) es_M_in ql_M_205 rfl (Nat.le_of_ble_eq_true rfl) (T_M_in (g := g) e (by omega) x1 (1 : Int32) (50 : Int32) M) dd_M_give_16 (fun q2 hq2 => ?_)
    refine mj_if_eq (pc := 19) (tgt := 37) dd_M_give_19 rfl (fun h3 => ?_) (fun h3 => ?_)
    · refine mj_L (L' := [(0, .ref 48), (1, .int x1)]) [0, 1] rfl ?_
      exact T_M_give_b37 (g := g) N e he x1 q2.2
    · refine mj_aload_n (pc := 22) (i := 0) rfl dd_M_give_22 ?_
      refine mj_getR (pc := 23) (b := 48) (k := 27) qf_M_58 sh_48 cl_12 rfl (by decide) (r := 65) rfl dd_M_give_23 ?_
      refine mj_bipush (pc := 26) (v := (44 : Int32)) (by decide) dd_M_give_26 ?_
      refine mj_ialdK (pc := 28) (j := 44) sh_65 (by decide) rfl dd_M_give_28 ?_
      refine mj_iload_n (pc := 29) (i := 1) rfl dd_M_give_29 ?_
      refine mj_iadd (pc := 30) dd_M_give_30 ?_
      refine mj_sipush (pc := 31) (v := (999 : Int32)) (by decide) dd_M_give_31 ?_
      refine mj_icmp_le (pc := 34) (tgt := 41) dd_M_give_34 rfl (fun h4 => ?_) (fun h4 => ?_)
      · refine mj_iconst (pc := 41) (v := (-1 : Int32)) (by decide) dd_M_give_41 ?_
        refine mj_L (L' := [(0, .ref 48), (1, .int x1)]) [0, 1] rfl ?_
        exact T_M_give_b42 (g := g) N e he x1 (-1 : Int32) q2.2
      · refine mj_L (L' := [(0, .ref 48), (1, .int x1)]) [0, 1] rfl ?_
        exact T_M_give_b37 (g := g) N e he x1 q2.2
def F_W_whys (x1 : Int32) (M : mj_M) : Option (Int32 × mj_M) :=
    if x1 < (0) then
     (some ((0 : Int32), M))
     else
     (if (9 : Int32) < x1 then
     (some ((0 : Int32), M))
     else
     (if x1 = (M 0 12) then
     (some ((0 : Int32), M))
     else
     (mj_lt (mj_u M 0 12 x1) (fun M4 =>
     some ((1 : Int32), M4)))))
set_option maxRecDepth 20000 in
theorem T_W_whys {g : mj_G} : ∀ d, 1 ≤ d → ∀ (x1 : Int32) (M : mj_M), mj_Mt g (mj_qI g) d y_W_whys c_W_whys 2 (some .boolean) [.ref 0, .int x1] M (F_W_whys x1 M) := by
  intro d hd x1 M
  obtain ⟨e, rfl⟩ : ∃ e, d = e + 1 := ⟨d - 1, by omega⟩
  have he : 0 ≤ e := by omega
  refine mj_met (by decide +kernel) (Nat.le_of_ble_eq_true rfl) ?_
  unfold F_W_whys
  refine mj_L (L' := [(0, .ref 0), (1, .int x1)]) [0, 1] rfl ?_
  refine mj_iload_n (pc := 0) (i := 1) rfl dd_W_whys_0 ?_
  refine mj_if_lt (pc := 1) (tgt := 18) dd_W_whys_1 rfl (fun h1 => ?_) (fun h1 => ?_)
  · refine mj_iconst (pc := 18) (v := (0 : Int32)) (by decide) dd_W_whys_18 ?_
    exact mj_zret (by decide) dd_W_whys_19 rfl rfl
  · refine mj_iload_n (pc := 4) (i := 1) rfl dd_W_whys_4 ?_
    refine mj_bipush (pc := 5) (v := (9 : Int32)) (by decide) dd_W_whys_5 ?_
    refine mj_icmp_gt (pc := 7) (tgt := 18) dd_W_whys_7 rfl (fun h2 => ?_) (fun h2 => ?_)
    · refine mj_iconst (pc := 18) (v := (0 : Int32)) (by decide) dd_W_whys_18 ?_
      exact mj_zret (by decide) dd_W_whys_19 rfl rfl
    · refine mj_iload_n (pc := 10) (i := 1) rfl dd_W_whys_10 ?_
      refine mj_aload_n (pc := 11) (i := 0) rfl dd_W_whys_11 ?_
      refine mj_getI (pc := 12) (b := 0) (k := 12) qf_W_98 sh_0 cl_11 rfl (by decide) rfl dd_W_whys_12 ?_
      refine mj_icmp_ne (pc := 15) (tgt := 20) dd_W_whys_15 rfl (fun h3 => ?_) (fun h3 => ?_)
      · refine mj_iconst (pc := 18) (v := (0 : Int32)) (by decide) dd_W_whys_18 ?_
        exact mj_zret (by decide) dd_W_whys_19 rfl rfl
      · refine mj_aload_n (pc := 20) (i := 0) rfl dd_W_whys_20 ?_
        refine mj_iload_n (pc := 21) (i := 1) rfl dd_W_whys_21 ?_
        refine mj_putI (pc := 22) (b := 0) (k := 12) qf_W_98 sh_0 cl_11 rfl (by decide) (by decide) rfl rfl rfl dd_W_whys_22 (fun M4 _ => ?_)
        refine mj_iconst (pc := 25) (v := (1 : Int32)) (by decide) dd_W_whys_25 ?_
        exact mj_zret (by decide) dd_W_whys_26 rfl rfl
def F_M_whys (x1 : Int32) (M : mj_M) : Option (Int32 × mj_M) :=
    (F_M_in x1 (0 : Int32) (9 : Int32) M).bind (fun q1 =>
     if q1.1 = (0) then
     (some ((0 : Int32), q1.2))
     else
     (if x1 = (q1.2 48 30) then
     (some ((0 : Int32), q1.2))
     else
     (mj_lt (mj_u q1.2 48 30 x1) (fun M4 =>
     some ((1 : Int32), M4)))))
set_option maxRecDepth 20000 in
theorem T_M_whys {g : mj_G} : ∀ d, 2 ≤ d → ∀ (x1 : Int32) (M : mj_M), mj_Mt g (mj_qI g) d y_M_whys c_M_whys 2 (some .boolean) [.ref 48, .int x1] M (F_M_whys x1 M) := by
  intro d hd x1 M
  obtain ⟨e, rfl⟩ : ∃ e, d = e + 1 := ⟨d - 1, by omega⟩
  have he : 1 ≤ e := by omega
  refine mj_met (by decide +kernel) (Nat.le_of_ble_eq_true rfl) ?_
  unfold F_M_whys
  refine mj_L (L' := [(0, .ref 48), (1, .int x1)]) [0, 1] rfl ?_
  refine mj_iload_n (pc := 0) (i := 1) rfl dd_M_whys_0 ?_
  refine mj_iconst (pc := 1) (v := (0 : Int32)) (by decide) dd_M_whys_1 ?_
  refine mj_bipush (pc := 2) (v := (9 : Int32)) (by decide) dd_M_whys_2 ?_
  refine mj_callSI (pc := 4) (idx := 205) (As := [.int x1, .int (0 : Int32), .int (9 : Int32)]) (st := []) es_M_in ql_M_205 rfl (Nat.le_of_ble_eq_true rfl) (T_M_in (g := g) e (by omega) x1 (0 : Int32) (9 : Int32) M) dd_M_whys_4 (fun q1 hq1 => ?_)
  refine mj_if_eq (pc := 7) (tgt := 18) dd_M_whys_7 rfl (fun h2 => ?_) (fun h2 => ?_)
  · refine mj_iconst (pc := 18) (v := (0 : Int32)) (by decide) dd_M_whys_18 ?_
    exact mj_zret (by decide) dd_M_whys_19 rfl rfl
  · refine mj_iload_n (pc := 10) (i := 1) rfl dd_M_whys_10 ?_
    refine mj_aload_n (pc := 11) (i := 0) rfl dd_M_whys_11 ?_
    refine mj_getI (pc := 12) (b := 48) (k := 30) qf_M_68 sh_48 cl_12 rfl (by decide) rfl dd_M_whys_12 ?_
    refine mj_icmp_ne (pc := 15) (tgt := 20) dd_M_whys_15 rfl (fun h3 => ?_) (fun h3 => ?_)
    · refine mj_iconst (pc := 18) (v := (0 : Int32)) (by decide) dd_M_whys_18 ?_
      exact mj_zret (by decide) dd_M_whys_19 rfl rfl
    · refine mj_aload_n (pc := 20) (i := 0) rfl dd_M_whys_20 ?_
      refine mj_iload_n (pc := 21) (i := 1) rfl dd_M_whys_21 ?_
      refine mj_putI (pc := 22) (b := 48) (k := 30) qf_M_68 sh_48 cl_12 rfl (by decide) (by decide) rfl rfl rfl dd_M_whys_22 (fun M4 _ => ?_)
      refine mj_iconst (pc := 25) (v := (1 : Int32)) (by decide) dd_M_whys_25 ?_
      exact mj_zret (by decide) dd_M_whys_26 rfl rfl
def F_W_turned (x0 : Int64) (M : mj_M) : Option (Int64 × mj_M) :=
    some ((x0 * (6364136223846793005 : Int64)) + (1442695040888963407 : Int64), M)
set_option maxRecDepth 20000 in
theorem T_W_turned {g : mj_G} : ∀ d, 1 ≤ d → ∀ (x0 : Int64) (M : mj_M), mj_Mt g (mj_qL g) d y_W_turned c_W_turned 2 (some .long) [.long x0] M (F_W_turned x0 M) := by
  intro d hd x0 M
  obtain ⟨e, rfl⟩ : ∃ e, d = e + 1 := ⟨d - 1, by omega⟩
  have he : 0 ≤ e := by omega
  refine mj_met (by decide +kernel) (Nat.le_of_ble_eq_true rfl) ?_
  unfold F_W_turned
  refine mj_L (L' := [(0, .long x0)]) [0] rfl ?_
  refine mj_lload_n (pc := 0) (i := 0) rfl dd_W_turned_0 ?_
  refine mj_ldc2 (pc := 1) qd_W_261 dd_W_turned_1 ?_
  refine mj_lmul (pc := 4) dd_W_turned_4 ?_
  refine mj_ldc2 (pc := 5) qd_W_263 dd_W_turned_5 ?_
  refine mj_ladd (pc := 8) dd_W_turned_8 ?_
  exact mj_lret dd_W_turned_9 rfl rfl
def F_W_drawn (x0 : Int64) (x2 : Int32) (M : mj_M) : Option (Int32 × mj_M) :=
    if x2 ≤ (0) then
     (some ((0 : Int32), M))
     else
     (if x2.toInt64 = 0 then none else
     some (((mj_lus x0 (33 : Int32)) - (mj_lus x0 (33 : Int32)) / x2.toInt64 * x2.toInt64).toInt32, M))
set_option maxRecDepth 20000 in
theorem T_W_drawn {g : mj_G} : ∀ d, 1 ≤ d → ∀ (x0 : Int64) (x2 : Int32) (M : mj_M), mj_Mt g (mj_qI g) d y_W_drawn c_W_drawn 3 (some .int) [.long x0, .int x2] M (F_W_drawn x0 x2 M) := by
  intro d hd x0 x2 M
  obtain ⟨e, rfl⟩ : ∃ e, d = e + 1 := ⟨d - 1, by omega⟩
  have he : 0 ≤ e := by omega
  refine mj_met (by decide +kernel) (Nat.le_of_ble_eq_true rfl) ?_
  unfold F_W_drawn
  refine mj_L (L' := [(0, .long x0), (2, .int x2)]) [0, 1] rfl ?_
  refine mj_iload_n (pc := 0) (i := 2) rfl dd_W_drawn_0 ?_
  refine mj_if_le (pc := 1) (tgt := 15) dd_W_drawn_1 rfl (fun h1 => ?_) (fun h1 => ?_)
  · refine mj_iconst (pc := 15) (v := (0 : Int32)) (by decide) dd_W_drawn_15 ?_
    exact mj_iret dd_W_drawn_16 rfl rfl
  · refine mj_lload_n (pc := 4) (i := 0) rfl dd_W_drawn_4 ?_
    refine mj_bipush (pc := 5) (v := (33 : Int32)) (by decide) dd_W_drawn_5 ?_
    refine mj_lushr (pc := 7) dd_W_drawn_7 ?_
    refine mj_iload_n (pc := 8) (i := 2) rfl dd_W_drawn_8 ?_
    refine mj_i2l (pc := 9) dd_W_drawn_9 ?_
    refine mj_lrem (pc := 10) dd_W_drawn_10 ?_
    refine mj_l2i (pc := 11) dd_W_drawn_11 ?_
    refine mj_goto (pc := 12) (tgt := 16) dd_W_drawn_12 rfl ?_
    exact mj_iret dd_W_drawn_16 rfl rfl
def F_W_walkIfHeCan (x1 : Int32) (M : mj_M) : Option (mj_M) :=
    (F_Stand_farTo x1 M).bind (fun q1 =>
     if (q1.2 20 2) < q1.1 then
     (some q1.2)
     else
     ((F_Stand_hasDays q1.1 q1.2).bind (fun q3 =>
     if q3.1 = (0) then
     (some q3.2)
     else
     ((F_Stand_walkTo x1 q3.2).bind (fun q5 =>
     some q5)))))
set_option maxRecDepth 20000 in
theorem T_W_walkIfHeCan {g : mj_G} : ∀ d, 3 ≤ d → ∀ (x1 : Int32) (M : mj_M), mj_Mt g (mj_qV g) d y_W_walkIfHeCan c_W_walkIfHeCan 3 none [.ref 0, .int x1] M (F_W_walkIfHeCan x1 M) := by
  intro d hd x1 M
  obtain ⟨e, rfl⟩ : ∃ e, d = e + 1 := ⟨d - 1, by omega⟩
  have he : 2 ≤ e := by omega
  refine mj_met (by decide +kernel) (Nat.le_of_ble_eq_true rfl) ?_
  unfold F_W_walkIfHeCan
  refine mj_L (L' := [(0, .ref 0), (1, .int x1)]) [0, 1] rfl ?_
  refine mj_aload_n (pc := 0) (i := 0) rfl dd_W_walkIfHeCan_0 ?_
  refine mj_getR (pc := 1) (b := 0) (k := 5) qf_W_49 sh_0 cl_11 rfl (by decide) (r := 20) rfl dd_W_walkIfHeCan_1 ?_
  refine mj_iload_n (pc := 4) (i := 1) rfl dd_W_walkIfHeCan_4 ?_
  refine mj_callVI (pc := 5) (idx := 215) (b := 20) (As := [.int x1]) (st := []) sh_20 cl_8 ev_Stand_farTo ql_W_215 rfl (Nat.le_of_ble_eq_true rfl) (T_Stand_farTo (g := g) e (by omega) x1 M) dd_W_walkIfHeCan_5 (fun q1 hq1 => ?_)
  refine mj_istore_n (pc := 8) (by decide) dd_W_walkIfHeCan_8 ?_
  refine mj_L (L' := [(2, .int q1.1), (0, .ref 0), (1, .int x1)]) [0, 1, 2] rfl ?_
  refine mj_iload_n (pc := 9) (i := 2) rfl dd_W_walkIfHeCan_9 ?_
  refine mj_aload_n (pc := 10) (i := 0) rfl dd_W_walkIfHeCan_10 ?_
  refine mj_getR (pc := 11) (b := 0) (k := 5) qf_W_49 sh_0 cl_11 rfl (by decide) (r := 20) rfl dd_W_walkIfHeCan_11 ?_
  refine mj_getI (pc := 14) (b := 20) (k := 2) qf_W_218 sh_20 cl_8 rfl (by decide) rfl dd_W_walkIfHeCan_14 ?_
  refine mj_icmp_gt (pc := 17) (tgt := 39) dd_W_walkIfHeCan_17 rfl (fun h2 => ?_) (fun h2 => ?_)
  · exact mj_vret dd_W_walkIfHeCan_39 rfl rfl
  · refine mj_aload_n (pc := 20) (i := 0) rfl dd_W_walkIfHeCan_20 ?_
    refine mj_getR (pc := 21) (b := 0) (k := 5) qf_W_49 sh_0 cl_11 rfl (by decide) (r := 20) rfl dd_W_walkIfHeCan_21 ?_
    refine mj_iload_n (pc := 24) (i := 2) rfl dd_W_walkIfHeCan_24 ?_
    refine mj_callVI (pc := 25) (idx := 204) (b := 20) (As := [.int q1.1]) (st := []) sh_20 cl_8 ev_Stand_hasDays ql_W_204 rfl (Nat.le_of_ble_eq_true rfl) (T_Stand_hasDays (g := g) e (by omega) q1.1 q1.2) dd_W_walkIfHeCan_25 (fun q3 hq3 => ?_)
    refine mj_if_eq (pc := 28) (tgt := 39) dd_W_walkIfHeCan_28 rfl (fun h4 => ?_) (fun h4 => ?_)
    · exact mj_vret dd_W_walkIfHeCan_39 rfl rfl
    · refine mj_aload_n (pc := 31) (i := 0) rfl dd_W_walkIfHeCan_31 ?_
      refine mj_getR (pc := 32) (b := 0) (k := 5) qf_W_49 sh_0 cl_11 rfl (by decide) (r := 20) rfl dd_W_walkIfHeCan_32 ?_
      refine mj_iload_n (pc := 35) (i := 1) rfl dd_W_walkIfHeCan_35 ?_
      refine mj_callVV (pc := 36) (idx := 221) (b := 20) (As := [.int x1]) (st := []) sh_20 cl_8 ev_Stand_walkTo ql_W_221 rfl (Nat.le_of_ble_eq_true rfl) (T_Stand_walkTo (g := g) e (by omega) x1 q3.2) dd_W_walkIfHeCan_36 (fun q5 hq5 => ?_)
      exact mj_vret dd_W_walkIfHeCan_39 rfl rfl
def F_W_tellIfHeCan (N : Nat) (x1 : Int32) (M : mj_M) : Option (mj_M) :=
    (F_Stand_owns x1 M).bind (fun q1 =>
     if q1.1 = (0) then
     (some q1.2)
     else
     ((F_Stays_now N (q1.2 20 0) x1 q1.2).bind (fun q3 =>
     (F_Stand_daysOf q3.1 q3.2).bind (fun q4 =>
     (F_Stand_hasDays q4.1 q4.2).bind (fun q5 =>
     if q5.1 = (0) then
     (some q5.2)
     else
     ((F_Stand_tellHere x1 q3.1 q5.2).bind (fun q7 =>
     some q7)))))))
set_option maxRecDepth 20000 in
theorem T_W_tellIfHeCan {g : mj_G} (N : Nat) : ∀ d, 6 ≤ d → ∀ (x1 : Int32) (M : mj_M), mj_Mt g (mj_qV g) d y_W_tellIfHeCan c_W_tellIfHeCan 3 none [.ref 0, .int x1] M (F_W_tellIfHeCan N x1 M) := by
  intro d hd x1 M
  obtain ⟨e, rfl⟩ : ∃ e, d = e + 1 := ⟨d - 1, by omega⟩
  have he : 5 ≤ e := by omega
  refine mj_met (by decide +kernel) (Nat.le_of_ble_eq_true rfl) ?_
  unfold F_W_tellIfHeCan
  refine mj_L (L' := [(0, .ref 0), (1, .int x1)]) [0, 1] rfl ?_
  refine mj_aload_n (pc := 0) (i := 0) rfl dd_W_tellIfHeCan_0 ?_
  refine mj_getR (pc := 1) (b := 0) (k := 5) qf_W_49 sh_0 cl_11 rfl (by decide) (r := 20) rfl dd_W_tellIfHeCan_1 ?_
  refine mj_iload_n (pc := 4) (i := 1) rfl dd_W_tellIfHeCan_4 ?_
  refine mj_callVI (pc := 5) (idx := 178) (b := 20) (As := [.int x1]) (st := []) sh_20 cl_8 ev_Stand_owns ql_W_178 rfl (Nat.le_of_ble_eq_true rfl) (T_Stand_owns (g := g) e (by omega) x1 M) dd_W_tellIfHeCan_5 (fun q1 hq1 => ?_)
  refine mj_if_ne (pc := 8) (tgt := 12) dd_W_tellIfHeCan_8 rfl (fun h2 => ?_) (fun h2 => ?_)
  · exact mj_vret dd_W_tellIfHeCan_11 rfl rfl
  · refine mj_aload_n (pc := 12) (i := 0) rfl dd_W_tellIfHeCan_12 ?_
    refine mj_getR (pc := 13) (b := 0) (k := 7) qf_W_65 sh_0 cl_11 rfl (by decide) (r := 28) rfl dd_W_tellIfHeCan_13 ?_
    refine mj_aload_n (pc := 16) (i := 0) rfl dd_W_tellIfHeCan_16 ?_
    refine mj_getR (pc := 17) (b := 0) (k := 5) qf_W_49 sh_0 cl_11 rfl (by decide) (r := 20) rfl dd_W_tellIfHeCan_17 ?_
    refine mj_getI (pc := 20) (b := 20) (k := 0) qf_W_198 sh_20 cl_8 rfl (by decide) rfl dd_W_tellIfHeCan_20 ?_
    refine mj_iload_n (pc := 23) (i := 1) rfl dd_W_tellIfHeCan_23 ?_
    refine mj_callVI (pc := 24) (idx := 188) (b := 28) (As := [.int (q1.2 20 0), .int x1]) (st := []) sh_28 cl_9 ev_Stays_now ql_W_188 rfl (Nat.le_of_ble_eq_true rfl) (T_Stays_now (g := g) N e (by omega) (q1.2 20 0) x1 q1.2) dd_W_tellIfHeCan_24 (fun q3 hq3 => ?_)
    refine mj_istore_n (pc := 27) (by decide) dd_W_tellIfHeCan_27 ?_
    refine mj_L (L' := [(2, .int q3.1), (0, .ref 0), (1, .int x1)]) [0, 1, 2] rfl ?_
    refine mj_aload_n (pc := 28) (i := 0) rfl dd_W_tellIfHeCan_28 ?_
    refine mj_getR (pc := 29) (b := 0) (k := 5) qf_W_49 sh_0 cl_11 rfl (by decide) (r := 20) rfl dd_W_tellIfHeCan_29 ?_
    refine mj_iload_n (pc := 32) (i := 2) rfl dd_W_tellIfHeCan_32 ?_
    refine mj_callSI (pc := 33) (idx := 201) (As := [.int q3.1]) (st := [.ref 20]) es_Stand_daysOf ql_W_201 rfl (Nat.le_of_ble_eq_true rfl) (T_Stand_daysOf (g := g) e (by omega) q3.1 q3.2) dd_W_tellIfHeCan_33 (fun q4 hq4 => ?_)
    refine mj_callVI (pc := 36) (idx := 204) (b := 20) (As := [.int q4.1]) (st := []) sh_20 cl_8 ev_Stand_hasDays ql_W_204 rfl (Nat.le_of_ble_eq_true rfl) (T_Stand_hasDays (g := g) e (by omega) q4.1 q4.2) dd_W_tellIfHeCan_36 (fun q5 hq5 => ?_)
    refine mj_if_eq (pc := 39) (tgt := 51) dd_W_tellIfHeCan_39 rfl (fun h6 => ?_) (fun h6 => ?_)
    · exact mj_vret dd_W_tellIfHeCan_51 rfl rfl
    · refine mj_aload_n (pc := 42) (i := 0) rfl dd_W_tellIfHeCan_42 ?_
      refine mj_getR (pc := 43) (b := 0) (k := 5) qf_W_49 sh_0 cl_11 rfl (by decide) (r := 20) rfl dd_W_tellIfHeCan_43 ?_
      refine mj_iload_n (pc := 46) (i := 1) rfl dd_W_tellIfHeCan_46 ?_
      refine mj_iload_n (pc := 47) (i := 2) rfl dd_W_tellIfHeCan_47 ?_
      refine mj_callVV (pc := 48) (idx := 211) (b := 20) (As := [.int x1, .int q3.1]) (st := []) sh_20 cl_8 ev_Stand_tellHere ql_W_211 rfl (Nat.le_of_ble_eq_true rfl) (T_Stand_tellHere (g := g) e (by omega) x1 q3.1 q5.2) dd_W_tellIfHeCan_48 (fun q7 hq7 => ?_)
      exact mj_vret dd_W_tellIfHeCan_51 rfl rfl
def F_W_years_b29 (N : Nat) : Nat → Int32 → Int64 → Int32 → mj_M → Option (Int32 × mj_M)
  | 0, _, _, _, _ => none
  | n + 1, x1, x4, x6, M =>
    if x1 ≤ x6 then
     (some (M 20 3, M))
     else
     ((F_Past_keep_c20 M).bind (fun q6 =>
     (F_W_turned x4 q6).bind (fun q7 =>
     (F_W_drawn q7.1 (q7.2 13 0) q7.2).bind (fun q8 =>
     (F_W_walkIfHeCan q8.1 q8.2).bind (fun q9 =>
     (F_W_turned q7.1 q9).bind (fun q10 =>
     (F_W_drawn q10.1 (q10.2 13 1) q10.2).bind (fun q11 =>
     (F_W_tellIfHeCan N q11.1 q11.2).bind (fun q12 =>
     (F_W_turned q10.1 q12).bind (fun q13 =>
     (F_W_drawn q13.1 (10 : Int32) q13.2).bind (fun q14 =>
     if (q14.2 0 12) ≤ q14.1 then
     (F_W_years_b29 N n x1 q13.1 (x6 + (1 : Int32)) q14.2)
     else
     (mj_lt (mj_u q14.2 20 2 (mj_min ((q14.2 20 2) + (3 : Int32)) (999 : Int32))) (fun M16 =>
     F_W_years_b29 N n x1 q13.1 (x6 + (1 : Int32)) M16))))))))))))
set_option maxRecDepth 20000 in
theorem T_W_years_b29 {g : mj_G} (N : Nat) (e : Nat) (he : 6 ≤ e) : ∀ (n : Nat) (x1 : Int32) (x4 : Int64) (x6 : Int32) (M : mj_M), mj_X g (mj_qI g) "WinterTellers" c_W_years 7 (some .int) e 29 [(0, .ref 0), (1, .int x1), (4, .long x4), (6, .int x6)] [] M (F_W_years_b29 N n x1 x4 x6 M) := by
  intro n
  induction n with
  | zero => intro x1 x4 x6 M; exact mj_none
  | succ n ih =>
    intro x1 x4 x6 M
    rw [F_W_years_b29]
    refine mj_iload (pc := 29) (i := 6) rfl dd_W_years_29 ?_
    refine mj_iload_n (pc := 31) (i := 1) rfl dd_W_years_31 ?_
    refine mj_icmp_ge (pc := 32) (tgt := 141) dd_W_years_32 rfl (fun h5 => ?_) (fun h5 => ?_)
    · refine mj_aload_n (pc := 141) (i := 0) rfl dd_W_years_141 ?_
      refine mj_getR (pc := 142) (b := 0) (k := 5) qf_W_49 sh_0 cl_11 rfl (by decide) (r := 20) rfl dd_W_years_142 ?_
      refine mj_getI (pc := 145) (b := 20) (k := 3) qf_W_224 sh_20 cl_8 rfl (by decide) rfl dd_W_years_145 ?_
      exact mj_iret dd_W_years_148 rfl rfl
    · refine mj_aload_n (pc := 35) (i := 0) rfl dd_W_years_35 ?_
      refine mj_getR (pc := 36) (b := 0) (k := 6) qf_W_56 sh_0 cl_11 rfl (by decide) (r := 24) rfl dd_W_years_36 ?_
      refine mj_aload_n (pc := 39) (i := 0) rfl dd_W_years_39 ?_
      refine mj_getR (pc := 40) (b := 0) (k := 5) qf_W_49 sh_0 cl_11 rfl (by decide) (r := 20) rfl dd_W_years_40 ?_
      refine mj_callVV (pc := 43) (idx := 207) (b := 24) (As := [.ref 20]) (st := []) sh_24 cl_6 ev_Past_keep ql_W_207 rfl (Nat.le_of_ble_eq_true rfl) (T_Past_keep_c20 (g := g) e (by omega) M) dd_W_years_43 (fun q6 hq6 => ?_)
      refine mj_lload (pc := 46) (i := 4) rfl dd_W_years_46 ?_
      refine mj_callSL (pc := 48) (idx := 239) (As := [.long x4]) (st := []) es_W_turned ql_W_239 rfl (Nat.le_of_ble_eq_true rfl) (T_W_turned (g := g) e (by omega) x4 q6) dd_W_years_48 (fun q7 hq7 => ?_)
      refine mj_lstore (pc := 51) (by decide) dd_W_years_51 ?_
      refine mj_L (L' := [(4, .long q7.1), (0, .ref 0), (1, .int x1), (6, .int x6)]) [0, 1, 2, 3] rfl ?_
      refine mj_aload_n (pc := 53) (i := 0) rfl dd_W_years_53 ?_
      refine mj_lload (pc := 54) (i := 4) rfl dd_W_years_54 ?_
      refine mj_aload_n (pc := 56) (i := 0) rfl dd_W_years_56 ?_
      refine mj_getR (pc := 57) (b := 0) (k := 4) qf_W_42 sh_0 cl_11 rfl (by decide) (r := 13) rfl dd_W_years_57 ?_
      refine mj_getI (pc := 60) (b := 13) (k := 0) qf_W_121 sh_13 cl_0 rfl (by decide) rfl dd_W_years_60 ?_
      refine mj_callSI (pc := 63) (idx := 243) (As := [.long q7.1, .int (q7.2 13 0)]) (st := [.ref 0]) es_W_drawn ql_W_243 rfl (Nat.le_of_ble_eq_true rfl) (T_W_drawn (g := g) e (by omega) q7.1 (q7.2 13 0) q7.2) dd_W_years_63 (fun q8 hq8 => ?_)
      refine mj_callVV (pc := 66) (idx := 247) (b := 0) (As := [.int q8.1]) (st := []) sh_0 cl_11 ev_W_walkIfHeCan ql_W_247 rfl (Nat.le_of_ble_eq_true rfl) (T_W_walkIfHeCan (g := g) e (by omega) q8.1 q8.2) dd_W_years_66 (fun q9 hq9 => ?_)
      refine mj_lload (pc := 69) (i := 4) rfl dd_W_years_69 ?_
      refine mj_callSL (pc := 71) (idx := 239) (As := [.long q7.1]) (st := []) es_W_turned ql_W_239 rfl (Nat.le_of_ble_eq_true rfl) (T_W_turned (g := g) e (by omega) q7.1 q9) dd_W_years_71 (fun q10 hq10 => ?_)
      refine mj_lstore (pc := 74) (by decide) dd_W_years_74 ?_
      refine mj_L (L' := [(4, .long q10.1), (0, .ref 0), (1, .int x1), (6, .int x6)]) [0, 1, 2, 3] rfl ?_
      refine mj_aload_n (pc := 76) (i := 0) rfl dd_W_years_76 ?_
      refine mj_lload (pc := 77) (i := 4) rfl dd_W_years_77 ?_
      refine mj_aload_n (pc := 79) (i := 0) rfl dd_W_years_79 ?_
      refine mj_getR (pc := 80) (b := 0) (k := 4) qf_W_42 sh_0 cl_11 rfl (by decide) (r := 13) rfl dd_W_years_80 ?_
      refine mj_getI (pc := 83) (b := 13) (k := 1) qf_W_250 sh_13 cl_0 rfl (by decide) rfl dd_W_years_83 ?_
      refine mj_callSI (pc := 86) (idx := 243) (As := [.long q10.1, .int (q10.2 13 1)]) (st := [.ref 0]) es_W_drawn ql_W_243 rfl (Nat.le_of_ble_eq_true rfl) (T_W_drawn (g := g) e (by omega) q10.1 (q10.2 13 1) q10.2) dd_W_years_86 (fun q11 hq11 => ?_)
      refine mj_callVV (pc := 89) (idx := 253) (b := 0) (As := [.int q11.1]) (st := []) sh_0 cl_11 ev_W_tellIfHeCan ql_W_253 rfl (Nat.le_of_ble_eq_true rfl) (T_W_tellIfHeCan (g := g) N e (by omega) q11.1 q11.2) dd_W_years_89 (fun q12 hq12 => ?_)
      refine mj_lload (pc := 92) (i := 4) rfl dd_W_years_92 ?_
      refine mj_callSL (pc := 94) (idx := 239) (As := [.long q10.1]) (st := []) es_W_turned ql_W_239 rfl (Nat.le_of_ble_eq_true rfl) (T_W_turned (g := g) e (by omega) q10.1 q12) dd_W_years_94 (fun q13 hq13 => ?_)
      refine mj_lstore (pc := 97) (by decide) dd_W_years_97 ?_
      refine mj_L (L' := [(4, .long q13.1), (0, .ref 0), (1, .int x1), (6, .int x6)]) [0, 1, 2, 3] rfl ?_
      refine mj_lload (pc := 99) (i := 4) rfl dd_W_years_99 ?_
      refine mj_bipush (pc := 101) (v := (10 : Int32)) (by decide) dd_W_years_101 ?_
      refine mj_callSI (pc := 103) (idx := 243) (As := [.long q13.1, .int (10 : Int32)]) (st := []) es_W_drawn ql_W_243 rfl (Nat.le_of_ble_eq_true rfl) (T_W_drawn (g := g) e (by omega) q13.1 (10 : Int32) q13.2) dd_W_years_103 (fun q14 hq14 => ?_)
      refine mj_aload_n (pc := 106) (i := 0) rfl dd_W_years_106 ?_
      refine mj_getI (pc := 107) (b := 0) (k := 12) qf_W_98 sh_0 cl_11 rfl (by decide) rfl dd_W_years_107 ?_
      refine mj_icmp_ge (pc := 110) (tgt := 135) dd_W_years_110 rfl (fun h15 => ?_) (fun h15 => ?_)
      · refine mj_iinc (pc := 135) (i := 6) (z := (1 : Int32)) rfl (by decide) (by decide) dd_W_years_135 ?_
        refine mj_L (L' := [(6, .int (x6 + (1 : Int32))), (4, .long q13.1), (0, .ref 0), (1, .int x1)]) [0, 1, 2, 3] rfl ?_
        refine mj_goto (pc := 138) (tgt := 29) dd_W_years_138 rfl ?_
        refine mj_L (L' := [(0, .ref 0), (1, .int x1), (4, .long q13.1), (6, .int (x6 + (1 : Int32)))]) [2, 3, 1, 0] rfl ?_
        exact ih x1 q13.1 (x6 + (1 : Int32)) q14.2
      · refine mj_aload_n (pc := 113) (i := 0) rfl dd_W_years_113 ?_
        refine mj_getR (pc := 114) (b := 0) (k := 5) qf_W_49 sh_0 cl_11 rfl (by decide) (r := 20) rfl dd_W_years_114 ?_
        refine mj_aload_n (pc := 117) (i := 0) rfl dd_W_years_117 ?_
        refine mj_getR (pc := 118) (b := 0) (k := 5) qf_W_49 sh_0 cl_11 rfl (by decide) (r := 20) rfl dd_W_years_118 ?_
        refine mj_getI (pc := 121) (b := 20) (k := 2) qf_W_218 sh_20 cl_8 rfl (by decide) rfl dd_W_years_121 ?_
        refine mj_iconst (pc := 124) (v := (3 : Int32)) (by decide) dd_W_years_124 ?_
        refine mj_iadd (pc := 125) dd_W_years_125 ?_
        refine mj_sipush (pc := 126) (v := (999 : Int32)) (by decide) dd_W_years_126 ?_
        refine mj_mmin (pc := 129) (idx := 256) qm_W_256 (Nat.le_of_ble_eq_true rfl) dd_W_years_129 ?_
        refine mj_putI (pc := 132) (b := 20) (k := 2) qf_W_218 sh_20 cl_8 rfl (by decide) (by decide) rfl rfl rfl dd_W_years_132 (fun M16 _ => ?_)
        refine mj_iinc (pc := 135) (i := 6) (z := (1 : Int32)) rfl (by decide) (by decide) dd_W_years_135 ?_
        refine mj_L (L' := [(6, .int (x6 + (1 : Int32))), (4, .long q13.1), (0, .ref 0), (1, .int x1)]) [0, 1, 2, 3] rfl ?_
        refine mj_goto (pc := 138) (tgt := 29) dd_W_years_138 rfl ?_
        refine mj_L (L' := [(0, .ref 0), (1, .int x1), (4, .long q13.1), (6, .int (x6 + (1 : Int32)))]) [2, 3, 1, 0] rfl ?_
        exact ih x1 q13.1 (x6 + (1 : Int32)) M16
def F_W_years (N : Nat) (x1 : Int32) (x2 : Int64) (M : mj_M) : Option (Int32 × mj_M) :=
    (F_Coast_isTold M).bind (fun q1 =>
     if q1.1 = (0) then
     (some ((-1 : Int32), q1.2))
     else
     (if x1 < (1 : Int32) then
     (some ((-1 : Int32), q1.2))
     else
     (if x1 ≤ (60 : Int32) then
     (F_W_years_b29 N N x1 x2 (0 : Int32) q1.2)
     else
     (some ((-1 : Int32), q1.2)))))
set_option maxRecDepth 20000 in
theorem T_W_years {g : mj_G} (N : Nat) : ∀ d, 7 ≤ d → ∀ (x1 : Int32) (x2 : Int64) (M : mj_M), mj_Mt g (mj_qI g) d y_W_years c_W_years 7 (some .int) [.ref 0, .int x1, .long x2] M (F_W_years N x1 x2 M) := by
  intro d hd x1 x2 M
  obtain ⟨e, rfl⟩ : ∃ e, d = e + 1 := ⟨d - 1, by omega⟩
  have he : 6 ≤ e := by omega
  refine mj_met (by decide +kernel) (Nat.le_of_ble_eq_true rfl) ?_
  unfold F_W_years
  refine mj_L (L' := [(0, .ref 0), (1, .int x1), (2, .long x2)]) [0, 1, 2] rfl ?_
  refine mj_aload_n (pc := 0) (i := 0) rfl dd_W_years_0 ?_
  refine mj_getR (pc := 1) (b := 0) (k := 4) qf_W_42 sh_0 cl_11 rfl (by decide) (r := 13) rfl dd_W_years_1 ?_
  refine mj_callVI (pc := 4) (idx := 235) (b := 13) (As := []) (st := []) sh_13 cl_0 ev_Coast_isTold ql_W_235 rfl (Nat.le_of_ble_eq_true rfl) (T_Coast_isTold (g := g) e (by omega) M) dd_W_years_4 (fun q1 hq1 => ?_)
  refine mj_if_eq (pc := 7) (tgt := 21) dd_W_years_7 rfl (fun h2 => ?_) (fun h2 => ?_)
  · refine mj_iconst (pc := 21) (v := (-1 : Int32)) (by decide) dd_W_years_21 ?_
    exact mj_iret dd_W_years_22 rfl rfl
  · refine mj_iload_n (pc := 10) (i := 1) rfl dd_W_years_10 ?_
    refine mj_iconst (pc := 11) (v := (1 : Int32)) (by decide) dd_W_years_11 ?_
    refine mj_icmp_lt (pc := 12) (tgt := 21) dd_W_years_12 rfl (fun h3 => ?_) (fun h3 => ?_)
    · refine mj_iconst (pc := 21) (v := (-1 : Int32)) (by decide) dd_W_years_21 ?_
      exact mj_iret dd_W_years_22 rfl rfl
    · refine mj_iload_n (pc := 15) (i := 1) rfl dd_W_years_15 ?_
      refine mj_bipush (pc := 16) (v := (60 : Int32)) (by decide) dd_W_years_16 ?_
      refine mj_icmp_le (pc := 18) (tgt := 23) dd_W_years_18 rfl (fun h4 => ?_) (fun h4 => ?_)
      · refine mj_lload_n (pc := 23) (i := 2) rfl dd_W_years_23 ?_
        refine mj_lstore (pc := 24) (by decide) dd_W_years_24 ?_
        refine mj_L (L' := [(4, .long x2), (0, .ref 0), (1, .int x1)]) [0, 1, 2] rfl ?_
        refine mj_iconst (pc := 26) (v := (0 : Int32)) (by decide) dd_W_years_26 ?_
        refine mj_istore (pc := 27) (by decide) dd_W_years_27 ?_
        refine mj_L (L' := [(6, .int (0 : Int32)), (4, .long x2), (0, .ref 0), (1, .int x1)]) [0, 1, 2, 3] rfl ?_
        refine mj_L (L' := [(0, .ref 0), (1, .int x1), (4, .long x2), (6, .int (0 : Int32))]) [2, 3, 1, 0] rfl ?_
        exact T_W_years_b29 (g := g) N e he N x1 x2 (0 : Int32) q1.2
      · refine mj_iconst (pc := 21) (v := (-1 : Int32)) (by decide) dd_W_years_21 ?_
        exact mj_iret dd_W_years_22 rfl rfl
