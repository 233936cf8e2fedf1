/-! ===== functions and their proofs ===== -/
def F_M_noteTelling_b62 (N : Nat) (x1 : Int32) (x2 : Int32) (x3 : Int32) (M : mj_M) : Option (mj_M) :=
    mj_lt ((49 : Int32) + ((3 : Int32) * (M 65 48))) (fun v2 =>
     mj_ck v2 229 (mj_lt (mj_u M 65 v2.toNatClampNeg x1) (fun M3 =>
     mj_ck (v2 + (1 : Int32)) 229 (mj_lt (mj_u M3 65 (v2 + (1 : Int32)).toNatClampNeg x2) (fun M4 =>
     mj_ck (v2 + (2 : Int32)) 229 (mj_lt (mj_u M4 65 (v2 + (2 : Int32)).toNatClampNeg x3) (fun M5 =>
     mj_lt (mj_u M5 65 48 ((M5 65 48) + (1 : Int32))) (fun M6 =>
     some M6))))))))
set_option maxRecDepth 20000 in
theorem T_M_noteTelling_b62 {g : mj_G} (N : Nat) (e : Nat) (he : 0 ≤ e) (x1 : Int32) (x2 : Int32) (x3 : Int32) (M : mj_M) : mj_X g (mj_qV g) "WinterTellersModel" c_M_noteTelling 5 none e 62 [(0, .ref 48), (1, .int x1), (2, .int x2), (3, .int x3)] [] M (F_M_noteTelling_b62 N x1 x2 x3 M) := by
  unfold F_M_noteTelling_b62
  refine mj_bipush (pc := 62) (v := (49 : Int32)) (by decide) dd_M_noteTelling_62 ?_
  refine mj_iconst (pc := 64) (v := (3 : Int32)) (by decide) dd_M_noteTelling_64 ?_
  refine mj_aload_n (pc := 65) (i := 0) rfl dd_M_noteTelling_65 ?_
  refine mj_getR (pc := 66) (b := 48) (k := 27) qf_M_58 sh_48 cl_12 rfl (by decide) (r := 65) rfl dd_M_noteTelling_66 ?_
  refine mj_bipush (pc := 69) (v := (48 : Int32)) (by decide) dd_M_noteTelling_69 ?_
  refine mj_ialdK (pc := 71) (j := 48) sh_65 (by decide) rfl dd_M_noteTelling_71 ?_
  refine mj_imul (pc := 72) dd_M_noteTelling_72 ?_
  refine mj_iadd (pc := 73) dd_M_noteTelling_73 ?_
  refine mj_istoreL (pc := 74) (by decide) dd_M_noteTelling_74 (fun v2 _ => ?_)
  refine mj_L (L' := [(4, .int v2), (0, .ref 48), (1, .int x1), (2, .int x2), (3, .int x3)]) [0, 1, 2, 3, 4] rfl ?_
  refine mj_aload_n (pc := 76) (i := 0) rfl dd_M_noteTelling_76 ?_
  refine mj_getR (pc := 77) (b := 48) (k := 27) qf_M_58 sh_48 cl_12 rfl (by decide) (r := 65) rfl dd_M_noteTelling_77 ?_
  refine mj_iload (pc := 80) (i := 4) rfl dd_M_noteTelling_80 ?_
  refine mj_iload_n (pc := 82) (i := 1) rfl dd_M_noteTelling_82 ?_
  refine mj_iast (pc := 83) sh_65 dd_M_noteTelling_83 (fun M3 _ => ?_)
  refine mj_aload_n (pc := 84) (i := 0) rfl dd_M_noteTelling_84 ?_
  refine mj_getR (pc := 85) (b := 48) (k := 27) qf_M_58 sh_48 cl_12 rfl (by decide) (r := 65) rfl dd_M_noteTelling_85 ?_
  refine mj_iload (pc := 88) (i := 4) rfl dd_M_noteTelling_88 ?_
  refine mj_iconst (pc := 90) (v := (1 : Int32)) (by decide) dd_M_noteTelling_90 ?_
  refine mj_iadd (pc := 91) dd_M_noteTelling_91 ?_
  refine mj_iload_n (pc := 92) (i := 2) rfl dd_M_noteTelling_92 ?_
  refine mj_iast (pc := 93) sh_65 dd_M_noteTelling_93 (fun M4 _ => ?_)
  refine mj_aload_n (pc := 94) (i := 0) rfl dd_M_noteTelling_94 ?_
  refine mj_getR (pc := 95) (b := 48) (k := 27) qf_M_58 sh_48 cl_12 rfl (by decide) (r := 65) rfl dd_M_noteTelling_95 ?_
  refine mj_iload (pc := 98) (i := 4) rfl dd_M_noteTelling_98 ?_
  refine mj_iconst (pc := 100) (v := (2 : Int32)) (by decide) dd_M_noteTelling_100 ?_
  refine mj_iadd (pc := 101) dd_M_noteTelling_101 ?_
  refine mj_iload_n (pc := 102) (i := 3) rfl dd_M_noteTelling_102 ?_
  refine mj_iast (pc := 103) sh_65 dd_M_noteTelling_103 (fun M5 _ => ?_)
  refine mj_aload_n (pc := 104) (i := 0) rfl dd_M_noteTelling_104 ?_
  refine mj_getR (pc := 105) (b := 48) (k := 27) qf_M_58 sh_48 cl_12 rfl (by decide) (r := 65) rfl dd_M_noteTelling_105 ?_
  refine mj_bipush (pc := 108) (v := (48 : Int32)) (by decide) dd_M_noteTelling_108 ?_
  refine mj_dup2 (pc := 110) rfl rfl dd_M_noteTelling_110 ?_
  refine mj_ialdK (pc := 111) (j := 48) sh_65 (by decide) rfl dd_M_noteTelling_111 ?_
  refine mj_iconst (pc := 112) (v := (1 : Int32)) (by decide) dd_M_noteTelling_112 ?_
  refine mj_iadd (pc := 113) dd_M_noteTelling_113 ?_
  refine mj_iastK (pc := 114) (j := 48) sh_65 (by decide) rfl dd_M_noteTelling_114 (fun M6 _ => ?_)
  exact mj_vret dd_M_noteTelling_115 rfl rfl
def F_M_noteTelling_b15 (N : Nat) : Nat → Int32 → Int32 → Int32 → Int32 → mj_M → Option (mj_M)
  | 0, _, _, _, _, _ => none
  | n + 1, x1, x2, x3, x4, M =>
    if (180 : Int32) ≤ x4 then
     (mj_lt (mj_u M 65 48 ((M 65 48) - (1 : Int32))) (fun M8 =>
     F_M_noteTelling_b62 N x1 x2 x3 M8))
     else
     (mj_ck ((49 : Int32) + x4) 229 (
     mj_ck (((49 : Int32) + x4) - (3 : Int32)) 229 (mj_lt (mj_u M 65 (((49 : Int32) + x4) - (3 : Int32)).toNatClampNeg (M 65 ((49 : Int32) + x4).toNatClampNeg)) (fun M9 =>
     F_M_noteTelling_b15 N n x1 x2 x3 (x4 + (1 : Int32)) M9))))
set_option maxRecDepth 20000 in
theorem T_M_noteTelling_b15 {g : mj_G} (N : Nat) (e : Nat) (he : 0 ≤ e) : ∀ (n : Nat) (x1 : Int32) (x2 : Int32) (x3 : Int32) (x4 : Int32) (M : mj_M), mj_X g (mj_qV g) "WinterTellersModel" c_M_noteTelling 5 none e 15 [(0, .ref 48), (1, .int x1), (2, .int x2), (3, .int x3), (4, .int x4)] [] M (F_M_noteTelling_b15 N n x1 x2 x3 x4 M) := by
  intro n
  induction n with
  | zero => intro x1 x2 x3 x4 M; exact mj_none
  | succ n ih =>
    intro x1 x2 x3 x4 M
    rw [F_M_noteTelling_b15]
    refine mj_iload (pc := 15) (i := 4) rfl dd_M_noteTelling_15 ?_
    refine mj_sipush (pc := 17) (v := (180 : Int32)) (by decide) dd_M_noteTelling_17 ?_
    refine mj_icmp_ge (pc := 20) (tgt := 51) dd_M_noteTelling_20 rfl (fun h7 => ?_) (fun h7 => ?_)
    · refine mj_aload_n (pc := 51) (i := 0) rfl dd_M_noteTelling_51 ?_
      refine mj_getR (pc := 52) (b := 48) (k := 27) qf_M_58 sh_48 cl_12 rfl (by decide) (r := 65) rfl dd_M_noteTelling_52 ?_
      refine mj_bipush (pc := 55) (v := (48 : Int32)) (by decide) dd_M_noteTelling_55 ?_
      refine mj_dup2 (pc := 57) rfl rfl dd_M_noteTelling_57 ?_
      refine mj_ialdK (pc := 58) (j := 48) sh_65 (by decide) rfl dd_M_noteTelling_58 ?_
      refine mj_iconst (pc := 59) (v := (1 : Int32)) (by decide) dd_M_noteTelling_59 ?_
      refine mj_isub (pc := 60) dd_M_noteTelling_60 ?_
      refine mj_iastK (pc := 61) (j := 48) sh_65 (by decide) rfl dd_M_noteTelling_61 (fun M8 _ => ?_)
      refine mj_L (L' := [(0, .ref 48), (1, .int x1), (2, .int x2), (3, .int x3)]) [0, 1, 2, 3] rfl ?_
      exact T_M_noteTelling_b62 (g := g) N e he x1 x2 x3 M8
    · refine mj_aload_n (pc := 23) (i := 0) rfl dd_M_noteTelling_23 ?_
      refine mj_getR (pc := 24) (b := 48) (k := 27) qf_M_58 sh_48 cl_12 rfl (by decide) (r := 65) rfl dd_M_noteTelling_24 ?_
      refine mj_bipush (pc := 27) (v := (49 : Int32)) (by decide) dd_M_noteTelling_27 ?_
      refine mj_iload (pc := 29) (i := 4) rfl dd_M_noteTelling_29 ?_
      refine mj_iadd (pc := 31) dd_M_noteTelling_31 ?_
      refine mj_iconst (pc := 32) (v := (3 : Int32)) (by decide) dd_M_noteTelling_32 ?_
      refine mj_isub (pc := 33) dd_M_noteTelling_33 ?_
      refine mj_aload_n (pc := 34) (i := 0) rfl dd_M_noteTelling_34 ?_
      refine mj_getR (pc := 35) (b := 48) (k := 27) qf_M_58 sh_48 cl_12 rfl (by decide) (r := 65) rfl dd_M_noteTelling_35 ?_
      refine mj_bipush (pc := 38) (v := (49 : Int32)) (by decide) dd_M_noteTelling_38 ?_
      refine mj_iload (pc := 40) (i := 4) rfl dd_M_noteTelling_40 ?_
      refine mj_iadd (pc := 42) dd_M_noteTelling_42 ?_
      refine mj_iald (pc := 43) sh_65 dd_M_noteTelling_43 ?_
      refine mj_iast (pc := 44) sh_65 dd_M_noteTelling_44 (fun M9 _ => ?_)
      refine mj_iinc (pc := 45) (i := 4) (z := (1 : Int32)) rfl (by decide) (by decide) dd_M_noteTelling_45 ?_
      refine mj_L (L' := [(4, .int (x4 + (1 : Int32))), (0, .ref 48), (1, .int x1), (2, .int x2), (3, .int x3)]) [0, 1, 2, 3, 4] rfl ?_
      refine mj_goto (pc := 48) (tgt := 15) dd_M_noteTelling_48 rfl ?_
      refine mj_L (L' := [(0, .ref 48), (1, .int x1), (2, .int x2), (3, .int x3), (4, .int (x4 + (1 : Int32)))]) [1, 2, 3, 4, 0] rfl ?_
      exact ih x1 x2 x3 (x4 + (1 : Int32)) M9
def F_M_noteTelling (N : Nat) (x1 : Int32) (x2 : Int32) (x3 : Int32) (M : mj_M) : Option (mj_M) :=
    if (M 65 48) = (60 : Int32) then
     (F_M_noteTelling_b15 N N x1 x2 x3 (3 : Int32) M)
     else
     (F_M_noteTelling_b62 N x1 x2 x3 M)
set_option maxRecDepth 20000 in
theorem T_M_noteTelling {g : mj_G} (N : Nat) : ∀ d, 1 ≤ d → ∀ (x1 : Int32) (x2 : Int32) (x3 : Int32) (M : mj_M), mj_Mt g (mj_qV g) d y_M_noteTelling c_M_noteTelling 5 none [.ref 48, .int x1, .int x2, .int x3] M (F_M_noteTelling N x1 x2 x3 M) := by
  intro d hd x1 x2 x3 M
  obtain ⟨e, rfl⟩ : ∃ e, d = e + 1 := ⟨d - 1, by omega⟩
  have he : 0 ≤ e := by omega
  refine mj_met (by decide +kernel) (Nat.le_of_ble_eq_true rfl) ?_
  unfold F_M_noteTelling
  refine mj_L (L' := [(0, .ref 48), (1, .int x1), (2, .int x2), (3, .int x3)]) [0, 1, 2, 3] rfl ?_
  refine mj_aload_n (pc := 0) (i := 0) rfl dd_M_noteTelling_0 ?_
  refine mj_getR (pc := 1) (b := 48) (k := 27) qf_M_58 sh_48 cl_12 rfl (by decide) (r := 65) rfl dd_M_noteTelling_1 ?_
  refine mj_bipush (pc := 4) (v := (48 : Int32)) (by decide) dd_M_noteTelling_4 ?_
  refine mj_ialdK (pc := 6) (j := 48) sh_65 (by decide) rfl dd_M_noteTelling_6 ?_
  refine mj_bipush (pc := 7) (v := (60 : Int32)) (by decide) dd_M_noteTelling_7 ?_
  refine mj_icmp_ne (pc := 9) (tgt := 62) dd_M_noteTelling_9 rfl (fun h1 => ?_) (fun h1 => ?_)
  · refine mj_iconst (pc := 12) (v := (3 : Int32)) (by decide) dd_M_noteTelling_12 ?_
    refine mj_istore (pc := 13) (by decide) dd_M_noteTelling_13 ?_
    refine mj_L (L' := [(4, .int (3 : Int32)), (0, .ref 48), (1, .int x1), (2, .int x2), (3, .int x3)]) [0, 1, 2, 3, 4] rfl ?_
    refine mj_L (L' := [(0, .ref 48), (1, .int x1), (2, .int x2), (3, .int x3), (4, .int (3 : Int32))]) [1, 2, 3, 4, 0] rfl ?_
    exact T_M_noteTelling_b15 (g := g) N e he N x1 x2 x3 (3 : Int32) M
  · refine mj_L (L' := [(0, .ref 48), (1, .int x1), (2, .int x2), (3, .int x3)]) [0, 1, 2, 3] rfl ?_
    exact T_M_noteTelling_b62 (g := g) N e he x1 x2 x3 M
def F_M_tellLogged (N : Nat) (x1 : Int32) (M : mj_M) : Option (Int32 × mj_M) :=
    mj_lt (M 65 42) (fun v1 =>
     (F_M_tellNow N x1 M).bind (fun q2 =>
     mj_lt (mj_u q2.2 65 45 ((q2.2 65 45) + (mj_max (1 : Int32) q2.1))) (fun M3 =>
     (F_M_noteTelling N v1 x1 q2.1 M3).bind (fun q4 =>
     some (q2.1, q4)))))
set_option maxRecDepth 20000 in
theorem T_M_tellLogged {g : mj_G} (N : Nat) : ∀ d, 8 ≤ d → ∀ (x1 : Int32) (M : mj_M), mj_Mt g (mj_qI g) d y_M_tellLogged c_M_tellLogged 4 (some .int) [.ref 48, .int x1] M (F_M_tellLogged N x1 M) := by
  intro d hd x1 M
  obtain ⟨e, rfl⟩ : ∃ e, d = e + 1 := ⟨d - 1, by omega⟩
  have he : 7 ≤ e := by omega
  refine mj_met (by decide +kernel) (Nat.le_of_ble_eq_true rfl) ?_
  unfold F_M_tellLogged
  refine mj_L (L' := [(0, .ref 48), (1, .int x1)]) [0, 1] rfl ?_
  refine mj_aload_n (pc := 0) (i := 0) rfl dd_M_tellLogged_0 ?_
  refine mj_getR (pc := 1) (b := 48) (k := 27) qf_M_58 sh_48 cl_12 rfl (by decide) (r := 65) rfl dd_M_tellLogged_1 ?_
  refine mj_bipush (pc := 4) (v := (42 : Int32)) (by decide) dd_M_tellLogged_4 ?_
  refine mj_ialdK (pc := 6) (j := 42) sh_65 (by decide) rfl dd_M_tellLogged_6 ?_
  refine mj_istore_nL (pc := 7) (by decide) dd_M_tellLogged_7 (fun v1 _ => ?_)
  refine mj_L (L' := [(2, .int v1), (0, .ref 48), (1, .int x1)]) [0, 1, 2] rfl ?_
  refine mj_aload_n (pc := 8) (i := 0) rfl dd_M_tellLogged_8 ?_
  refine mj_iload_n (pc := 9) (i := 1) rfl dd_M_tellLogged_9 ?_
  refine mj_callVI (pc := 10) (idx := 293) (b := 48) (As := [.int x1]) (st := []) sh_48 cl_12 ev_M_tellNow ql_M_293 rfl (Nat.le_of_ble_eq_true rfl) (T_M_tellNow (g := g) N e (by omega) x1 M) dd_M_tellLogged_10 (fun q2 hq2 => ?_)
  refine mj_istore_n (pc := 13) (by decide) dd_M_tellLogged_13 ?_
  refine mj_L (L' := [(3, .int q2.1), (2, .int v1), (0, .ref 48), (1, .int x1)]) [0, 1, 2, 3] rfl ?_
  refine mj_aload_n (pc := 14) (i := 0) rfl dd_M_tellLogged_14 ?_
  refine mj_getR (pc := 15) (b := 48) (k := 27) qf_M_58 sh_48 cl_12 rfl (by decide) (r := 65) rfl dd_M_tellLogged_15 ?_
  refine mj_bipush (pc := 18) (v := (45 : Int32)) (by decide) dd_M_tellLogged_18 ?_
  refine mj_dup2 (pc := 20) rfl rfl dd_M_tellLogged_20 ?_
  refine mj_ialdK (pc := 21) (j := 45) sh_65 (by decide) rfl dd_M_tellLogged_21 ?_
  refine mj_iconst (pc := 22) (v := (1 : Int32)) (by decide) dd_M_tellLogged_22 ?_
  refine mj_iload_n (pc := 23) (i := 3) rfl dd_M_tellLogged_23 ?_
  refine mj_mmax (pc := 24) (idx := 275) qm_M_275 (Nat.le_of_ble_eq_true rfl) dd_M_tellLogged_24 ?_
  refine mj_iadd (pc := 27) dd_M_tellLogged_27 ?_
  refine mj_iastK (pc := 28) (j := 45) sh_65 (by decide) rfl dd_M_tellLogged_28 (fun M3 _ => ?_)
  refine mj_aload_n (pc := 29) (i := 0) rfl dd_M_tellLogged_29 ?_
  refine mj_iload_n (pc := 30) (i := 2) rfl dd_M_tellLogged_30 ?_
  refine mj_iload_n (pc := 31) (i := 1) rfl dd_M_tellLogged_31 ?_
  refine mj_iload_n (pc := 32) (i := 3) rfl dd_M_tellLogged_32 ?_
  refine mj_callVV (pc := 33) (idx := 296) (b := 48) (As := [.int v1, .int x1, .int q2.1]) (st := []) sh_48 cl_12 ev_M_noteTelling ql_M_296 rfl (Nat.le_of_ble_eq_true rfl) (T_M_noteTelling (g := g) N e (by omega) v1 x1 q2.1 M3) dd_M_tellLogged_33 (fun q4 hq4 => ?_)
  refine mj_iload_n (pc := 36) (i := 3) rfl dd_M_tellLogged_36 ?_
  exact mj_iret dd_M_tellLogged_37 rfl rfl
def F_M_tells_b38 (N : Nat) (x1 : Int32) (s1 : Int32) (M : mj_M) : Option (Int32 × mj_M) :=
    (F_M_isRefused s1 M).bind (fun q7 =>
     if q7.1 = (0) then
     ((F_M_keep N q7.2).bind (fun q9 =>
     (F_M_tellLogged N x1 q9).bind (fun q10 =>
     some (q10.1, q10.2))))
     else
     (some ((-1 : Int32), q7.2)))
set_option maxRecDepth 20000 in
theorem T_M_tells_b38 {g : mj_G} (N : Nat) (e : Nat) (he : 8 ≤ e) (x1 : Int32) (s1 : Int32) (M : mj_M) : mj_X g (mj_qI g) "WinterTellersModel" c_M_tells 2 (some .int) e 38 [(0, .ref 48), (1, .int x1)] [.int s1, .ref 48] M (F_M_tells_b38 N x1 s1 M) := by
  unfold F_M_tells_b38
  refine mj_callVI (pc := 38) (idx := 318) (b := 48) (As := [.int s1]) (st := []) sh_48 cl_12 ev_M_isRefused ql_M_318 rfl (Nat.le_of_ble_eq_true rfl) (T_M_isRefused (g := g) e (by omega) s1 M) dd_M_tells_38 (fun q7 hq7 => ?_)
  refine mj_if_eq (pc := 41) (tgt := 46) dd_M_tells_41 rfl (fun h8 => ?_) (fun h8 => ?_)
  · refine mj_aload_n (pc := 46) (i := 0) rfl dd_M_tells_46 ?_
    refine mj_callVV (pc := 47) (idx := 321) (b := 48) (As := []) (st := []) sh_48 cl_12 ev_M_keep ql_M_321 rfl (Nat.le_of_ble_eq_true rfl) (T_M_keep (g := g) N e (by omega) q7.2) dd_M_tells_47 (fun q9 hq9 => ?_)
    refine mj_aload_n (pc := 50) (i := 0) rfl dd_M_tells_50 ?_
    refine mj_iload_n (pc := 51) (i := 1) rfl dd_M_tells_51 ?_
    refine mj_callVI (pc := 52) (idx := 324) (b := 48) (As := [.int x1]) (st := []) sh_48 cl_12 ev_M_tellLogged ql_M_324 rfl (Nat.le_of_ble_eq_true rfl) (T_M_tellLogged (g := g) N e (by omega) x1 q9) dd_M_tells_52 (fun q10 hq10 => ?_)
    exact mj_iret dd_M_tells_55 rfl rfl
  · refine mj_iconst (pc := 44) (v := (-1 : Int32)) (by decide) dd_M_tells_44 ?_
    exact mj_iret dd_M_tells_45 rfl rfl
def F_M_tells (N : Nat) (x1 : Int32) (M : mj_M) : Option (Int32 × mj_M) :=
    (F_M_isTale x1 M).bind (fun q1 =>
     if q1.1 = (0) then
     (F_M_tells_b38 N x1 (0 : Int32) q1.2)
     else
     ((F_M_owns x1 q1.2).bind (fun q3 =>
     if q3.1 = (0) then
     (F_M_tells_b38 N x1 (2 : Int32) q3.2)
     else
     ((F_M_isTooLong N x1 q3.2).bind (fun q5 =>
     if q5.1 = (0) then
     (F_M_tells_b38 N x1 (-1 : Int32) q5.2)
     else
     (F_M_tells_b38 N x1 (4 : Int32) q5.2))))))
set_option maxRecDepth 20000 in
theorem T_M_tells {g : mj_G} (N : Nat) : ∀ d, 9 ≤ d → ∀ (x1 : Int32) (M : mj_M), mj_Mt g (mj_qI g) d y_M_tells c_M_tells 2 (some .int) [.ref 48, .int x1] M (F_M_tells N x1 M) := by
  intro d hd x1 M
  obtain ⟨e, rfl⟩ : ∃ e, d = e + 1 := ⟨d - 1, by omega⟩
  have he : 8 ≤ e := by omega
  refine mj_met (by decide +kernel) (Nat.le_of_ble_eq_true rfl) ?_
  unfold F_M_tells
  refine mj_L (L' := [(0, .ref 48), (1, .int x1)]) [0, 1] rfl ?_
  refine mj_aload_n (pc := 0) (i := 0) rfl dd_M_tells_0 ?_
  refine mj_aload_n (pc := 1) (i := 0) rfl dd_M_tells_1 ?_
  refine mj_iload_n (pc := 2) (i := 1) rfl dd_M_tells_2 ?_
  refine mj_callVI (pc := 3) (idx := 306) (b := 48) (As := [.int x1]) (st := [.ref 48]) sh_48 cl_12 ev_M_isTale ql_M_306 rfl (Nat.le_of_ble_eq_true rfl) (T_M_isTale (g := g) e (by omega) x1 M) dd_M_tells_3 (fun q1 hq1 => ?_)
  refine mj_if_ne (pc := 6) (tgt := 13) dd_M_tells_6 rfl (fun h2 => ?_) (fun h2 => ?_)
  · refine mj_iconst (pc := 9) (v := (0 : Int32)) (by decide) dd_M_tells_9 ?_
    refine mj_goto (pc := 10) (tgt := 38) dd_M_tells_10 rfl ?_
    refine mj_L (L' := [(0, .ref 48), (1, .int x1)]) [0, 1] rfl ?_
    exact T_M_tells_b38 (g := g) N e he x1 (0 : Int32) q1.2
  · refine mj_aload_n (pc := 13) (i := 0) rfl dd_M_tells_13 ?_
    refine mj_iload_n (pc := 14) (i := 1) rfl dd_M_tells_14 ?_
    refine mj_callVI (pc := 15) (idx := 309) (b := 48) (As := [.int x1]) (st := [.ref 48]) sh_48 cl_12 ev_M_owns ql_M_309 rfl (Nat.le_of_ble_eq_true rfl) (T_M_owns (g := g) e (by omega) x1 q1.2) dd_M_tells_15 (fun q3 hq3 => ?_)
    refine mj_if_ne (pc := 18) (tgt := 25) dd_M_tells_18 rfl (fun h4 => ?_) (fun h4 => ?_)
    · refine mj_iconst (pc := 21) (v := (2 : Int32)) (by decide) dd_M_tells_21 ?_
      refine mj_goto (pc := 22) (tgt := 38) dd_M_tells_22 rfl ?_
      refine mj_L (L' := [(0, .ref 48), (1, .int x1)]) [0, 1] rfl ?_
      exact T_M_tells_b38 (g := g) N e he x1 (2 : Int32) q3.2
    · refine mj_aload_n (pc := 25) (i := 0) rfl dd_M_tells_25 ?_
      refine mj_iload_n (pc := 26) (i := 1) rfl dd_M_tells_26 ?_
      refine mj_callVI (pc := 27) (idx := 315) (b := 48) (As := [.int x1]) (st := [.ref 48]) sh_48 cl_12 ev_M_isTooLong ql_M_315 rfl (Nat.le_of_ble_eq_true rfl) (T_M_isTooLong (g := g) N e (by omega) x1 q3.2) dd_M_tells_27 (fun q5 hq5 => ?_)
      refine mj_if_eq (pc := 30) (tgt := 37) dd_M_tells_30 rfl (fun h6 => ?_) (fun h6 => ?_)
      · refine mj_iconst (pc := 37) (v := (-1 : Int32)) (by decide) dd_M_tells_37 ?_
        refine mj_L (L' := [(0, .ref 48), (1, .int x1)]) [0, 1] rfl ?_
        exact T_M_tells_b38 (g := g) N e he x1 (-1 : Int32) q5.2
      · refine mj_iconst (pc := 33) (v := (4 : Int32)) (by decide) dd_M_tells_33 ?_
        refine mj_goto (pc := 34) (tgt := 38) dd_M_tells_34 rfl ?_
        refine mj_L (L' := [(0, .ref 48), (1, .int x1)]) [0, 1] rfl ?_
        exact T_M_tells_b38 (g := g) N e he x1 (4 : Int32) q5.2
def F_Stand_farTo (x1 : Int32) (M : mj_M) : Option (Int32 × mj_M) :=
    some (mj_abs (x1 - (M 20 0)), M)
set_option maxRecDepth 20000 in
theorem T_Stand_farTo {g : mj_G} : ∀ d, 1 ≤ d → ∀ (x1 : Int32) (M : mj_M), mj_Mt g (mj_qI g) d y_Stand_farTo c_Stand_farTo 2 (some .int) [.ref 20, .int x1] M (F_Stand_farTo x1 M) := by
  intro d hd x1 M
  obtain ⟨e, rfl⟩ : ∃ e, d = e + 1 := ⟨d - 1, by omega⟩
  have he : 0 ≤ e := by omega
  refine mj_met (by decide +kernel) (Nat.le_of_ble_eq_true rfl) ?_
  unfold F_Stand_farTo
  refine mj_L (L' := [(0, .ref 20), (1, .int x1)]) [0, 1] rfl ?_
  refine mj_iload_n (pc := 0) (i := 1) rfl dd_Stand_farTo_0 ?_
  refine mj_aload_n (pc := 1) (i := 0) rfl dd_Stand_farTo_1 ?_
  refine mj_getI (pc := 2) (b := 20) (k := 0) qf_Stand_29 sh_20 cl_8 rfl (by decide) rfl dd_Stand_farTo_2 ?_
  refine mj_isub (pc := 5) dd_Stand_farTo_5 ?_
  refine mj_mabs (pc := 6) (idx := 77) qm_Stand_77 (Nat.le_of_ble_eq_true rfl) dd_Stand_farTo_6 ?_
  exact mj_iret dd_Stand_farTo_9 rfl rfl
def F_Stand_walkTo (x1 : Int32) (M : mj_M) : Option (mj_M) :=
    (F_Stand_farTo x1 M).bind (fun q1 =>
     mj_lt (mj_u q1.2 20 3 ((q1.2 20 3) + q1.1)) (fun M2 =>
     mj_lt (mj_u M2 20 2 ((M2 20 2) - q1.1)) (fun M3 =>
     mj_lt (mj_u M3 20 0 x1) (fun M4 =>
     some M4))))
set_option maxRecDepth 20000 in
theorem T_Stand_walkTo {g : mj_G} : ∀ d, 2 ≤ d → ∀ (x1 : Int32) (M : mj_M), mj_Mt g (mj_qV g) d y_Stand_walkTo c_Stand_walkTo 3 none [.ref 20, .int x1] M (F_Stand_walkTo x1 M) := by
  intro d hd x1 M
  obtain ⟨e, rfl⟩ : ∃ e, d = e + 1 := ⟨d - 1, by omega⟩
  have he : 1 ≤ e := by omega
  refine mj_met (by decide +kernel) (Nat.le_of_ble_eq_true rfl) ?_
  unfold F_Stand_walkTo
  refine mj_L (L' := [(0, .ref 20), (1, .int x1)]) [0, 1] rfl ?_
  refine mj_aload_n (pc := 0) (i := 0) rfl dd_Stand_walkTo_0 ?_
  refine mj_iload_n (pc := 1) (i := 1) rfl dd_Stand_walkTo_1 ?_
  refine mj_callVI (pc := 2) (idx := 90) (b := 20) (As := [.int x1]) (st := []) sh_20 cl_8 ev_Stand_farTo ql_Stand_90 rfl (Nat.le_of_ble_eq_true rfl) (T_Stand_farTo (g := g) e (by omega) x1 M) dd_Stand_walkTo_2 (fun q1 hq1 => ?_)
  refine mj_istore_n (pc := 5) (by decide) dd_Stand_walkTo_5 ?_
  refine mj_L (L' := [(2, .int q1.1), (0, .ref 20), (1, .int x1)]) [0, 1, 2] rfl ?_
  refine mj_aload_n (pc := 6) (i := 0) rfl dd_Stand_walkTo_6 ?_
  refine mj_dup (pc := 7) rfl dd_Stand_walkTo_7 ?_
  refine mj_getI (pc := 8) (b := 20) (k := 3) qf_Stand_42 sh_20 cl_8 rfl (by decide) rfl dd_Stand_walkTo_8 ?_
  refine mj_iload_n (pc := 11) (i := 2) rfl dd_Stand_walkTo_11 ?_
  refine mj_iadd (pc := 12) dd_Stand_walkTo_12 ?_
  refine mj_putI (pc := 13) (b := 20) (k := 3) qf_Stand_42 sh_20 cl_8 rfl (by decide) (by decide) rfl rfl rfl dd_Stand_walkTo_13 (fun M2 _ => ?_)
  refine mj_aload_n (pc := 16) (i := 0) rfl dd_Stand_walkTo_16 ?_
  refine mj_dup (pc := 17) rfl dd_Stand_walkTo_17 ?_
  refine mj_getI (pc := 18) (b := 20) (k := 2) qf_Stand_41 sh_20 cl_8 rfl (by decide) rfl dd_Stand_walkTo_18 ?_
  refine mj_iload_n (pc := 21) (i := 2) rfl dd_Stand_walkTo_21 ?_
  refine mj_isub (pc := 22) dd_Stand_walkTo_22 ?_
  refine mj_putI (pc := 23) (b := 20) (k := 2) qf_Stand_41 sh_20 cl_8 rfl (by decide) (by decide) rfl rfl rfl dd_Stand_walkTo_23 (fun M3 _ => ?_)
  refine mj_aload_n (pc := 26) (i := 0) rfl dd_Stand_walkTo_26 ?_
  refine mj_iload_n (pc := 27) (i := 1) rfl dd_Stand_walkTo_27 ?_
  refine mj_putI (pc := 28) (b := 20) (k := 0) qf_Stand_29 sh_20 cl_8 rfl (by decide) (by decide) rfl rfl rfl dd_Stand_walkTo_28 (fun M4 _ => ?_)
  exact mj_vret dd_Stand_walkTo_31 rfl rfl
def F_W_goes (x1 : Int32) (M : mj_M) : Option (Int32 × mj_M) :=
    (F_Coast_hasHouse x1 M).bind (fun q1 =>
     if q1.1 = (0) then
     ((F_W_refuse (0 : Int32) q1.2).bind (fun q13 =>
     some (q13.1, q13.2)))
     else
     (if x1 = (q1.2 20 0) then
     ((F_W_refuse (2 : Int32) q1.2).bind (fun q12 =>
     some (q12.1, q12.2)))
     else
     ((F_Stand_farTo x1 q1.2).bind (fun q4 =>
     if q4.1 ≤ (q4.2 20 2) then
     ((F_Stand_hasDays q4.1 q4.2).bind (fun q6 =>
     if q6.1 = (0) then
     ((F_W_refuse (4 : Int32) q6.2).bind (fun q10 =>
     some (q10.1, q10.2)))
     else
     ((F_Past_keep_c20 q6.2).bind (fun q8 =>
     (F_Stand_walkTo x1 q8).bind (fun q9 =>
     some (q4.1, q9))))))
     else
     ((F_W_refuse (3 : Int32) q4.2).bind (fun q11 =>
     some (q11.1, q11.2)))))))
set_option maxRecDepth 20000 in
theorem T_W_goes {g : mj_G} : ∀ d, 3 ≤ d → ∀ (x1 : Int32) (M : mj_M), mj_Mt g (mj_qI g) d y_W_goes c_W_goes 3 (some .int) [.ref 0, .int x1] M (F_W_goes x1 M) := by
  intro d hd x1 M
  obtain ⟨e, rfl⟩ : ∃ e, d = e + 1 := ⟨d - 1, by omega⟩
  have he : 2 ≤ e := by omega
  refine mj_met (by decide +kernel) (Nat.le_of_ble_eq_true rfl) ?_
  unfold F_W_goes
  refine mj_L (L' := [(0, .ref 0), (1, .int x1)]) [0, 1] rfl ?_
  refine mj_aload_n (pc := 0) (i := 0) rfl dd_W_goes_0 ?_
  refine mj_getR (pc := 1) (b := 0) (k := 4) qf_W_42 sh_0 cl_11 rfl (by decide) (r := 13) rfl dd_W_goes_1 ?_
  refine mj_iload_n (pc := 4) (i := 1) rfl dd_W_goes_4 ?_
  refine mj_callVI (pc := 5) (idx := 150) (b := 13) (As := [.int x1]) (st := []) sh_13 cl_0 ev_Coast_hasHouse ql_W_150 rfl (Nat.le_of_ble_eq_true rfl) (T_Coast_hasHouse (g := g) e (by omega) x1 M) dd_W_goes_5 (fun q1 hq1 => ?_)
  refine mj_if_ne (pc := 8) (tgt := 17) dd_W_goes_8 rfl (fun h2 => ?_) (fun h2 => ?_)
  · refine mj_aload_n (pc := 11) (i := 0) rfl dd_W_goes_11 ?_
    refine mj_iconst (pc := 12) (v := (0 : Int32)) (by decide) dd_W_goes_12 ?_
    refine mj_callVI (pc := 13) (idx := 195) (b := 0) (As := [.int (0 : Int32)]) (st := []) sh_0 cl_11 ev_W_refuse ql_W_195 rfl (Nat.le_of_ble_eq_true rfl) (T_W_refuse (g := g) e (by omega) (0 : Int32) q1.2) dd_W_goes_13 (fun q13 hq13 => ?_)
    exact mj_iret dd_W_goes_16 rfl rfl
  · refine mj_iload_n (pc := 17) (i := 1) rfl dd_W_goes_17 ?_
    refine mj_aload_n (pc := 18) (i := 0) rfl dd_W_goes_18 ?_
    refine mj_getR (pc := 19) (b := 0) (k := 5) qf_W_49 sh_0 cl_11 rfl (by decide) (r := 20) rfl dd_W_goes_19 ?_
    refine mj_getI (pc := 22) (b := 20) (k := 0) qf_W_198 sh_20 cl_8 rfl (by decide) rfl dd_W_goes_22 ?_
    refine mj_icmp_ne (pc := 25) (tgt := 34) dd_W_goes_25 rfl (fun h3 => ?_) (fun h3 => ?_)
    · refine mj_aload_n (pc := 28) (i := 0) rfl dd_W_goes_28 ?_
      refine mj_iconst (pc := 29) (v := (2 : Int32)) (by decide) dd_W_goes_29 ?_
      refine mj_callVI (pc := 30) (idx := 195) (b := 0) (As := [.int (2 : Int32)]) (st := []) sh_0 cl_11 ev_W_refuse ql_W_195 rfl (Nat.le_of_ble_eq_true rfl) (T_W_refuse (g := g) e (by omega) (2 : Int32) q1.2) dd_W_goes_30 (fun q12 hq12 => ?_)
      exact mj_iret dd_W_goes_33 rfl rfl
    · refine mj_aload_n (pc := 34) (i := 0) rfl dd_W_goes_34 ?_
      refine mj_getR (pc := 35) (b := 0) (k := 5) qf_W_49 sh_0 cl_11 rfl (by decide) (r := 20) rfl dd_W_goes_35 ?_
      refine mj_iload_n (pc := 38) (i := 1) rfl dd_W_goes_38 ?_
      refine mj_callVI (pc := 39) (idx := 215) (b := 20) (As := [.int x1]) (st := []) sh_20 cl_8 ev_Stand_farTo ql_W_215 rfl (Nat.le_of_ble_eq_true rfl) (T_Stand_farTo (g := g) e (by omega) x1 q1.2) dd_W_goes_39 (fun q4 hq4 => ?_)
      refine mj_istore_n (pc := 42) (by decide) dd_W_goes_42 ?_
      refine mj_L (L' := [(2, .int q4.1), (0, .ref 0), (1, .int x1)]) [0, 1, 2] rfl ?_
      refine mj_iload_n (pc := 43) (i := 2) rfl dd_W_goes_43 ?_
      refine mj_aload_n (pc := 44) (i := 0) rfl dd_W_goes_44 ?_
      refine mj_getR (pc := 45) (b := 0) (k := 5) qf_W_49 sh_0 cl_11 rfl (by decide) (r := 20) rfl dd_W_goes_45 ?_
      refine mj_getI (pc := 48) (b := 20) (k := 2) qf_W_218 sh_20 cl_8 rfl (by decide) rfl dd_W_goes_48 ?_
      refine mj_icmp_le (pc := 51) (tgt := 60) dd_W_goes_51 rfl (fun h5 => ?_) (fun h5 => ?_)
      · refine mj_aload_n (pc := 60) (i := 0) rfl dd_W_goes_60 ?_
        refine mj_getR (pc := 61) (b := 0) (k := 5) qf_W_49 sh_0 cl_11 rfl (by decide) (r := 20) rfl dd_W_goes_61 ?_
        refine mj_iload_n (pc := 64) (i := 2) rfl dd_W_goes_64 ?_
        refine mj_callVI (pc := 65) (idx := 204) (b := 20) (As := [.int q4.1]) (st := []) sh_20 cl_8 ev_Stand_hasDays ql_W_204 rfl (Nat.le_of_ble_eq_true rfl) (T_Stand_hasDays (g := g) e (by omega) q4.1 q4.2) dd_W_goes_65 (fun q6 hq6 => ?_)
        refine mj_if_ne (pc := 68) (tgt := 77) dd_W_goes_68 rfl (fun h7 => ?_) (fun h7 => ?_)
        · refine mj_aload_n (pc := 71) (i := 0) rfl dd_W_goes_71 ?_
          refine mj_iconst (pc := 72) (v := (4 : Int32)) (by decide) dd_W_goes_72 ?_
          refine mj_callVI (pc := 73) (idx := 195) (b := 0) (As := [.int (4 : Int32)]) (st := []) sh_0 cl_11 ev_W_refuse ql_W_195 rfl (Nat.le_of_ble_eq_true rfl) (T_W_refuse (g := g) e (by omega) (4 : Int32) q6.2) dd_W_goes_73 (fun q10 hq10 => ?_)
          exact mj_iret dd_W_goes_76 rfl rfl
        · refine mj_aload_n (pc := 77) (i := 0) rfl dd_W_goes_77 ?_
          refine mj_getR (pc := 78) (b := 0) (k := 6) qf_W_56 sh_0 cl_11 rfl (by decide) (r := 24) rfl dd_W_goes_78 ?_
          refine mj_aload_n (pc := 81) (i := 0) rfl dd_W_goes_81 ?_
          refine mj_getR (pc := 82) (b := 0) (k := 5) qf_W_49 sh_0 cl_11 rfl (by decide) (r := 20) rfl dd_W_goes_82 ?_
          refine mj_callVV (pc := 85) (idx := 207) (b := 24) (As := [.ref 20]) (st := []) sh_24 cl_6 ev_Past_keep ql_W_207 rfl (Nat.le_of_ble_eq_true rfl) (T_Past_keep_c20 (g := g) e (by omega) q6.2) dd_W_goes_85 (fun q8 hq8 => ?_)
          refine mj_aload_n (pc := 88) (i := 0) rfl dd_W_goes_88 ?_
          refine mj_getR (pc := 89) (b := 0) (k := 5) qf_W_49 sh_0 cl_11 rfl (by decide) (r := 20) rfl dd_W_goes_89 ?_
          refine mj_iload_n (pc := 92) (i := 1) rfl dd_W_goes_92 ?_
          refine mj_callVV (pc := 93) (idx := 221) (b := 20) (As := [.int x1]) (st := []) sh_20 cl_8 ev_Stand_walkTo ql_W_221 rfl (Nat.le_of_ble_eq_true rfl) (T_Stand_walkTo (g := g) e (by omega) x1 q8) dd_W_goes_93 (fun q9 hq9 => ?_)
          refine mj_iload_n (pc := 96) (i := 2) rfl dd_W_goes_96 ?_
          exact mj_iret dd_W_goes_97 rfl rfl
      · refine mj_aload_n (pc := 54) (i := 0) rfl dd_W_goes_54 ?_
        refine mj_iconst (pc := 55) (v := (3 : Int32)) (by decide) dd_W_goes_55 ?_
        refine mj_callVI (pc := 56) (idx := 195) (b := 0) (As := [.int (3 : Int32)]) (st := []) sh_0 cl_11 ev_W_refuse ql_W_195 rfl (Nat.le_of_ble_eq_true rfl) (T_W_refuse (g := g) e (by omega) (3 : Int32) q4.2) dd_W_goes_56 (fun q11 hq11 => ?_)
        exact mj_iret dd_W_goes_59 rfl rfl
def F_M_farTo (x1 : Int32) (M : mj_M) : Option (Int32 × mj_M) :=
    some (mj_abs (x1 - (M 65 42)), M)
set_option maxRecDepth 20000 in
theorem T_M_farTo {g : mj_G} : ∀ d, 1 ≤ d → ∀ (x1 : Int32) (M : mj_M), mj_Mt g (mj_qI g) d y_M_farTo c_M_farTo 2 (some .int) [.ref 48, .int x1] M (F_M_farTo x1 M) := by
  intro d hd x1 M
  obtain ⟨e, rfl⟩ : ∃ e, d = e + 1 := ⟨d - 1, by omega⟩
  have he : 0 ≤ e := by omega
  refine mj_met (by decide +kernel) (Nat.le_of_ble_eq_true rfl) ?_
  unfold F_M_farTo
  refine mj_L (L' := [(0, .ref 48), (1, .int x1)]) [0, 1] rfl ?_
  refine mj_iload_n (pc := 0) (i := 1) rfl dd_M_farTo_0 ?_
  refine mj_aload_n (pc := 1) (i := 0) rfl dd_M_farTo_1 ?_
  refine mj_getR (pc := 2) (b := 48) (k := 27) qf_M_58 sh_48 cl_12 rfl (by decide) (r := 65) rfl dd_M_farTo_2 ?_
  refine mj_bipush (pc := 5) (v := (42 : Int32)) (by decide) dd_M_farTo_5 ?_
  refine mj_ialdK (pc := 7) (j := 42) sh_65 (by decide) rfl dd_M_farTo_7 ?_
  refine mj_isub (pc := 8) dd_M_farTo_8 ?_
  refine mj_mabs (pc := 9) (idx := 287) qm_M_287 (Nat.le_of_ble_eq_true rfl) dd_M_farTo_9 ?_
  exact mj_iret dd_M_farTo_12 rfl rfl
def F_M_goNow (x1 : Int32) (M : mj_M) : Option (mj_M) :=
    (F_M_farTo x1 M).bind (fun q1 =>
     mj_lt (mj_u q1.2 65 44 ((M 65 44) - q1.1)) (fun M2 =>
     mj_lt (mj_u M2 65 42 x1) (fun M3 =>
     some M3)))
set_option maxRecDepth 20000 in
theorem T_M_goNow {g : mj_G} : ∀ d, 2 ≤ d → ∀ (x1 : Int32) (M : mj_M), mj_Mt g (mj_qV g) d y_M_goNow c_M_goNow 2 none [.ref 48, .int x1] M (F_M_goNow x1 M) := by
  intro d hd x1 M
  obtain ⟨e, rfl⟩ : ∃ e, d = e + 1 := ⟨d - 1, by omega⟩
  have he : 1 ≤ e := by omega
  refine mj_met (by decide +kernel) (Nat.le_of_ble_eq_true rfl) ?_
  unfold F_M_goNow
  refine mj_L (L' := [(0, .ref 48), (1, .int x1)]) [0, 1] rfl ?_
  refine mj_aload_n (pc := 0) (i := 0) rfl dd_M_goNow_0 ?_
  refine mj_getR (pc := 1) (b := 48) (k := 27) qf_M_58 sh_48 cl_12 rfl (by decide) (r := 65) rfl dd_M_goNow_1 ?_
  refine mj_bipush (pc := 4) (v := (44 : Int32)) (by decide) dd_M_goNow_4 ?_
  refine mj_dup2 (pc := 6) rfl rfl dd_M_goNow_6 ?_
  refine mj_ialdK (pc := 7) (j := 44) sh_65 (by decide) rfl dd_M_goNow_7 ?_
  refine mj_aload_n (pc := 8) (i := 0) rfl dd_M_goNow_8 ?_
  refine mj_iload_n (pc := 9) (i := 1) rfl dd_M_goNow_9 ?_
  refine mj_callVI (pc := 10) (idx := 290) (b := 48) (As := [.int x1]) (st := [.int (M 65 44), .int (44 : Int32), .ref 65]) sh_48 cl_12 ev_M_farTo ql_M_290 rfl (Nat.le_of_ble_eq_true rfl) (T_M_farTo (g := g) e (by omega) x1 M) dd_M_goNow_10 (fun q1 hq1 => ?_)
  refine mj_isub (pc := 13) dd_M_goNow_13 ?_
  refine mj_iastK (pc := 14) (j := 44) sh_65 (by decide) rfl dd_M_goNow_14 (fun M2 _ => ?_)
  refine mj_aload_n (pc := 15) (i := 0) rfl dd_M_goNow_15 ?_
  refine mj_getR (pc := 16) (b := 48) (k := 27) qf_M_58 sh_48 cl_12 rfl (by decide) (r := 65) rfl dd_M_goNow_16 ?_
  refine mj_bipush (pc := 19) (v := (42 : Int32)) (by decide) dd_M_goNow_19 ?_
  refine mj_iload_n (pc := 21) (i := 1) rfl dd_M_goNow_21 ?_
  refine mj_iastK (pc := 22) (j := 42) sh_65 (by decide) rfl dd_M_goNow_22 (fun M3 _ => ?_)
  exact mj_vret dd_M_goNow_23 rfl rfl
def F_M_goes_b64 (N : Nat) (x1 : Int32) (s1 : Int32) (M : mj_M) : Option (Int32 × mj_M) :=
    (F_M_isRefused s1 M).bind (fun q9 =>
     if q9.1 = (0) then
     ((F_M_keep N q9.2).bind (fun q11 =>
     (F_M_farTo x1 q11).bind (fun q12 =>
     (F_M_goNow x1 q12.2).bind (fun q13 =>
     mj_lt (mj_u q13 65 45 ((q13 65 45) + q12.1)) (fun M14 =>
     some (q12.1, M14))))))
     else
     (some ((-1 : Int32), q9.2)))
set_option maxRecDepth 20000 in
theorem T_M_goes_b64 {g : mj_G} (N : Nat) (e : Nat) (he : 2 ≤ e) (x1 : Int32) (s1 : Int32) (M : mj_M) : mj_X g (mj_qI g) "WinterTellersModel" c_M_goes 3 (some .int) e 64 [(0, .ref 48), (1, .int x1)] [.int s1, .ref 48] M (F_M_goes_b64 N x1 s1 M) := by
  unfold F_M_goes_b64
  refine mj_callVI (pc := 64) (idx := 318) (b := 48) (As := [.int s1]) (st := []) sh_48 cl_12 ev_M_isRefused ql_M_318 rfl (Nat.le_of_ble_eq_true rfl) (T_M_isRefused (g := g) e (by omega) s1 M) dd_M_goes_64 (fun q9 hq9 => ?_)
  refine mj_if_eq (pc := 67) (tgt := 72) dd_M_goes_67 rfl (fun h10 => ?_) (fun h10 => ?_)
  · refine mj_aload_n (pc := 72) (i := 0) rfl dd_M_goes_72 ?_
    refine mj_callVV (pc := 73) (idx := 321) (b := 48) (As := []) (st := []) sh_48 cl_12 ev_M_keep ql_M_321 rfl (Nat.le_of_ble_eq_true rfl) (T_M_keep (g := g) N e (by omega) q9.2) dd_M_goes_73 (fun q11 hq11 => ?_)
    refine mj_aload_n (pc := 76) (i := 0) rfl dd_M_goes_76 ?_
    refine mj_iload_n (pc := 77) (i := 1) rfl dd_M_goes_77 ?_
    refine mj_callVI (pc := 78) (idx := 290) (b := 48) (As := [.int x1]) (st := []) sh_48 cl_12 ev_M_farTo ql_M_290 rfl (Nat.le_of_ble_eq_true rfl) (T_M_farTo (g := g) e (by omega) x1 q11) dd_M_goes_78 (fun q12 hq12 => ?_)
    refine mj_istore_n (pc := 81) (by decide) dd_M_goes_81 ?_
    refine mj_L (L' := [(2, .int q12.1), (0, .ref 48), (1, .int x1)]) [0, 1, 2] rfl ?_
    refine mj_aload_n (pc := 82) (i := 0) rfl dd_M_goes_82 ?_
    refine mj_iload_n (pc := 83) (i := 1) rfl dd_M_goes_83 ?_
    refine mj_callVV (pc := 84) (idx := 327) (b := 48) (As := [.int x1]) (st := []) sh_48 cl_12 ev_M_goNow ql_M_327 rfl (Nat.le_of_ble_eq_true rfl) (T_M_goNow (g := g) e (by omega) x1 q12.2) dd_M_goes_84 (fun q13 hq13 => ?_)
    refine mj_aload_n (pc := 87) (i := 0) rfl dd_M_goes_87 ?_
    refine mj_getR (pc := 88) (b := 48) (k := 27) qf_M_58 sh_48 cl_12 rfl (by decide) (r := 65) rfl dd_M_goes_88 ?_
    refine mj_bipush (pc := 91) (v := (45 : Int32)) (by decide) dd_M_goes_91 ?_
    refine mj_dup2 (pc := 93) rfl rfl dd_M_goes_93 ?_
    refine mj_ialdK (pc := 94) (j := 45) sh_65 (by decide) rfl dd_M_goes_94 ?_
    refine mj_iload_n (pc := 95) (i := 2) rfl dd_M_goes_95 ?_
    refine mj_iadd (pc := 96) dd_M_goes_96 ?_
    refine mj_iastK (pc := 97) (j := 45) sh_65 (by decide) rfl dd_M_goes_97 (fun M14 _ => ?_)
    refine mj_iload_n (pc := 98) (i := 2) rfl dd_M_goes_98 ?_
    exact mj_iret dd_M_goes_99 rfl rfl
  · refine mj_iconst (pc := 70) (v := (-1 : Int32)) (by decide) dd_M_goes_70 ?_
    exact mj_iret dd_M_goes_71 rfl rfl
def F_M_goes (N : Nat) (x1 : Int32) (M : mj_M) : Option (Int32 × mj_M) :=
    (F_M_isHouse x1 M).bind (fun q1 =>
     if q1.1 = (0) then
     (F_M_goes_b64 N x1 (0 : Int32) q1.2)
     else
     (if x1 = (q1.2 65 42) then
     (F_M_goes_b64 N x1 (2 : Int32) q1.2)
     else
     ((F_M_farTo x1 q1.2).bind (fun q4 =>
     if q4.1 ≤ (q1.2 65 44) then
     ((F_M_farTo x1 q4.2).bind (fun q6 =>
     (F_M_isLate q6.1 q6.2).bind (fun q7 =>
     if q7.1 = (0) then
     (F_M_goes_b64 N x1 (-1 : Int32) q7.2)
     else
     (F_M_goes_b64 N x1 (4 : Int32) q7.2))))
     else
     (F_M_goes_b64 N x1 (3 : Int32) q4.2)))))
set_option maxRecDepth 20000 in
theorem T_M_goes {g : mj_G} (N : Nat) : ∀ d, 3 ≤ d → ∀ (x1 : Int32) (M : mj_M), mj_Mt g (mj_qI g) d y_M_goes c_M_goes 3 (some .int) [.ref 48, .int x1] M (F_M_goes N x1 M) := by
  intro d hd x1 M
  obtain ⟨e, rfl⟩ : ∃ e, d = e + 1 := ⟨d - 1, by omega⟩
  have he : 2 ≤ e := by omega
  refine mj_met (by decide +kernel) (Nat.le_of_ble_eq_true rfl) ?_
  unfold F_M_goes
  refine mj_L (L' := [(0, .ref 48), (1, .int x1)]) [0, 1] rfl ?_
  refine mj_aload_n (pc := 0) (i := 0) rfl dd_M_goes_0 ?_
  refine mj_aload_n (pc := 1) (i := 0) rfl dd_M_goes_1 ?_
  refine mj_iload_n (pc := 2) (i := 1) rfl dd_M_goes_2 ?_
  refine mj_callVI (pc := 3) (idx := 300) (b := 48) (As := [.int x1]) (st := [.ref 48]) sh_48 cl_12 ev_M_isHouse ql_M_300 rfl (Nat.le_of_ble_eq_true rfl) (T_M_isHouse (g := g) e (by omega) x1 M) dd_M_goes_3 (fun q1 hq1 => ?_)
  refine mj_if_ne (pc := 6) (tgt := 13) dd_M_goes_6 rfl (fun h2 => ?_) (fun h2 => ?_)
  · refine mj_iconst (pc := 9) (v := (0 : Int32)) (by decide) dd_M_goes_9 ?_
    refine mj_goto (pc := 10) (tgt := 64) dd_M_goes_10 rfl ?_
    refine mj_L (L' := [(0, .ref 48), (1, .int x1)]) [0, 1] rfl ?_
    exact T_M_goes_b64 (g := g) N e he x1 (0 : Int32) q1.2
  · refine mj_iload_n (pc := 13) (i := 1) rfl dd_M_goes_13 ?_
    refine mj_aload_n (pc := 14) (i := 0) rfl dd_M_goes_14 ?_
    refine mj_getR (pc := 15) (b := 48) (k := 27) qf_M_58 sh_48 cl_12 rfl (by decide) (r := 65) rfl dd_M_goes_15 ?_
    refine mj_bipush (pc := 18) (v := (42 : Int32)) (by decide) dd_M_goes_18 ?_
    refine mj_ialdK (pc := 20) (j := 42) sh_65 (by decide) rfl dd_M_goes_20 ?_
    refine mj_icmp_ne (pc := 21) (tgt := 28) dd_M_goes_21 rfl (fun h3 => ?_) (fun h3 => ?_)
    · refine mj_iconst (pc := 24) (v := (2 : Int32)) (by decide) dd_M_goes_24 ?_
      refine mj_goto (pc := 25) (tgt := 64) dd_M_goes_25 rfl ?_
      refine mj_L (L' := [(0, .ref 48), (1, .int x1)]) [0, 1] rfl ?_
      exact T_M_goes_b64 (g := g) N e he x1 (2 : Int32) q1.2
    · refine mj_aload_n (pc := 28) (i := 0) rfl dd_M_goes_28 ?_
      refine mj_getR (pc := 29) (b := 48) (k := 27) qf_M_58 sh_48 cl_12 rfl (by decide) (r := 65) rfl dd_M_goes_29 ?_
      refine mj_bipush (pc := 32) (v := (44 : Int32)) (by decide) dd_M_goes_32 ?_
      refine mj_ialdK (pc := 34) (j := 44) sh_65 (by decide) rfl dd_M_goes_34 ?_
      refine mj_aload_n (pc := 35) (i := 0) rfl dd_M_goes_35 ?_
      refine mj_iload_n (pc := 36) (i := 1) rfl dd_M_goes_36 ?_
      refine mj_callVI (pc := 37) (idx := 290) (b := 48) (As := [.int x1]) (st := [.int (q1.2 65 44), .ref 48]) sh_48 cl_12 ev_M_farTo ql_M_290 rfl (Nat.le_of_ble_eq_true rfl) (T_M_farTo (g := g) e (by omega) x1 q1.2) dd_M_goes_37 (fun q4 hq4 => ?_)
      refine mj_icmp_ge (pc := 40) (tgt := 47) dd_M_goes_40 rfl (fun h5 => ?_) (fun h5 => ?_)
      · refine mj_aload_n (pc := 47) (i := 0) rfl dd_M_goes_47 ?_
        refine mj_aload_n (pc := 48) (i := 0) rfl dd_M_goes_48 ?_
        refine mj_iload_n (pc := 49) (i := 1) rfl dd_M_goes_49 ?_
        refine mj_callVI (pc := 50) (idx := 290) (b := 48) (As := [.int x1]) (st := [.ref 48, .ref 48]) sh_48 cl_12 ev_M_farTo ql_M_290 rfl (Nat.le_of_ble_eq_true rfl) (T_M_farTo (g := g) e (by omega) x1 q4.2) dd_M_goes_50 (fun q6 hq6 => ?_)
        refine mj_callVI (pc := 53) (idx := 312) (b := 48) (As := [.int q6.1]) (st := [.ref 48]) sh_48 cl_12 ev_M_isLate ql_M_312 rfl (Nat.le_of_ble_eq_true rfl) (T_M_isLate (g := g) e (by omega) q6.1 q6.2) dd_M_goes_53 (fun q7 hq7 => ?_)
        refine mj_if_eq (pc := 56) (tgt := 63) dd_M_goes_56 rfl (fun h8 => ?_) (fun h8 => ?_)
        · refine mj_iconst (pc := 63) (v := (-1 : Int32)) (by decide) dd_M_goes_63 ?_
          refine mj_L (L' := [(0, .ref 48), (1, .int x1)]) [0, 1] rfl ?_
          exact T_M_goes_b64 (g := g) N e he x1 (-1 : Int32) q7.2
        · refine mj_iconst (pc := 59) (v := (4 : Int32)) (by decide) dd_M_goes_59 ?_
          refine mj_goto (pc := 60) (tgt := 64) dd_M_goes_60 rfl ?_
          refine mj_L (L' := [(0, .ref 48), (1, .int x1)]) [0, 1] rfl ?_
          exact T_M_goes_b64 (g := g) N e he x1 (4 : Int32) q7.2
      · refine mj_iconst (pc := 43) (v := (3 : Int32)) (by decide) dd_M_goes_43 ?_
        refine mj_goto (pc := 44) (tgt := 64) dd_M_goes_44 rfl ?_
        refine mj_L (L' := [(0, .ref 48), (1, .int x1)]) [0, 1] rfl ?_
        exact T_M_goes_b64 (g := g) N e he x1 (3 : Int32) q4.2
def F_Integer_bitCount (x0 : Int32) (M : mj_M) : Option (Int32 × mj_M) :=
    mj_lt (x0 - ((mj_us x0 (1 : Int32)) &&& (1431655765 : Int32))) (fun v1 =>
     mj_lt ((v1 &&& (858993459 : Int32)) + ((mj_us v1 (2 : Int32)) &&& (858993459 : Int32))) (fun v2 =>
     mj_lt ((v2 + (mj_us v2 (4 : Int32))) &&& (252645135 : Int32)) (fun v3 =>
     mj_lt (v3 + (mj_us v3 (8 : Int32))) (fun v4 =>
     mj_lt (v4 + (mj_us v4 (16 : Int32))) (fun v5 =>
     some (v5 &&& (63 : Int32), M))))))
set_option maxRecDepth 20000 in
theorem T_Integer_bitCount {g : mj_G} : ∀ d, 1 ≤ d → ∀ (x0 : Int32) (M : mj_M), mj_Mt g (mj_qI g) d y_Integer_bitCount c_Integer_bitCount 1 (some .int) [.int x0] M (F_Integer_bitCount x0 M) := by
  intro d hd x0 M
  obtain ⟨e, rfl⟩ : ∃ e, d = e + 1 := ⟨d - 1, by omega⟩
  have he : 0 ≤ e := by omega
  refine mj_met (by decide +kernel) (Nat.le_of_ble_eq_true rfl) ?_
  unfold F_Integer_bitCount
  refine mj_L (L' := [(0, .int x0)]) [0] rfl ?_
  refine mj_iload_n (pc := 0) (i := 0) rfl dd_Integer_bitCount_0 ?_
  refine mj_iload_n (pc := 1) (i := 0) rfl dd_Integer_bitCount_1 ?_
  refine mj_iconst (pc := 2) (v := (1 : Int32)) (by decide) dd_Integer_bitCount_2 ?_
  refine mj_iushr (pc := 3) dd_Integer_bitCount_3 ?_
  refine mj_ldcw (pc := 4) qc_Integer_265 dd_Integer_bitCount_4 ?_
  refine mj_iand (pc := 7) dd_Integer_bitCount_7 ?_
  refine mj_isub (pc := 8) dd_Integer_bitCount_8 ?_
  refine mj_istore_nL (pc := 9) (by decide) dd_Integer_bitCount_9 (fun v1 _ => ?_)
  refine mj_L (L' := [(0, .int v1)]) [0] rfl ?_
  refine mj_iload_n (pc := 10) (i := 0) rfl dd_Integer_bitCount_10 ?_
  refine mj_ldcw (pc := 11) qc_Integer_266 dd_Integer_bitCount_11 ?_
  refine mj_iand (pc := 14) dd_Integer_bitCount_14 ?_
  refine mj_iload_n (pc := 15) (i := 0) rfl dd_Integer_bitCount_15 ?_
  refine mj_iconst (pc := 16) (v := (2 : Int32)) (by decide) dd_Integer_bitCount_16 ?_
  refine mj_iushr (pc := 17) dd_Integer_bitCount_17 ?_
  refine mj_ldcw (pc := 18) qc_Integer_266 dd_Integer_bitCount_18 ?_
  refine mj_iand (pc := 21) dd_Integer_bitCount_21 ?_
  refine mj_iadd (pc := 22) dd_Integer_bitCount_22 ?_
  refine mj_istore_nL (pc := 23) (by decide) dd_Integer_bitCount_23 (fun v2 _ => ?_)
  refine mj_L (L' := [(0, .int v2)]) [0] rfl ?_
  refine mj_iload_n (pc := 24) (i := 0) rfl dd_Integer_bitCount_24 ?_
  refine mj_iload_n (pc := 25) (i := 0) rfl dd_Integer_bitCount_25 ?_
  refine mj_iconst (pc := 26) (v := (4 : Int32)) (by decide) dd_Integer_bitCount_26 ?_
  refine mj_iushr (pc := 27) dd_Integer_bitCount_27 ?_
  refine mj_iadd (pc := 28) dd_Integer_bitCount_28 ?_
  refine mj_ldcw (pc := 29) qc_Integer_267 dd_Integer_bitCount_29 ?_
  refine mj_iand (pc := 32) dd_Integer_bitCount_32 ?_
  refine mj_istore_nL (pc := 33) (by decide) dd_Integer_bitCount_33 (fun v3 _ => ?_)
  refine mj_L (L' := [(0, .int v3)]) [0] rfl ?_
  refine mj_iload_n (pc := 34) (i := 0) rfl dd_Integer_bitCount_34 ?_
  refine mj_iload_n (pc := 35) (i := 0) rfl dd_Integer_bitCount_35 ?_
  refine mj_bipush (pc := 36) (v := (8 : Int32)) (by decide) dd_Integer_bitCount_36 ?_
  refine mj_iushr (pc := 38) dd_Integer_bitCount_38 ?_
  refine mj_iadd (pc := 39) dd_Integer_bitCount_39 ?_
  refine mj_istore_nL (pc := 40) (by decide) dd_Integer_bitCount_40 (fun v4 _ => ?_)
  refine mj_L (L' := [(0, .int v4)]) [0] rfl ?_
  refine mj_iload_n (pc := 41) (i := 0) rfl dd_Integer_bitCount_41 ?_
  refine mj_iload_n (pc := 42) (i := 0) rfl dd_Integer_bitCount_42 ?_
  refine mj_bipush (pc := 43) (v := (16 : Int32)) (by decide) dd_Integer_bitCount_43 ?_
  refine mj_iushr (pc := 45) dd_Integer_bitCount_45 ?_
  refine mj_iadd (pc := 46) dd_Integer_bitCount_46 ?_
  refine mj_istore_nL (pc := 47) (by decide) dd_Integer_bitCount_47 (fun v5 _ => ?_)
  refine mj_L (L' := [(0, .int v5)]) [0] rfl ?_
  refine mj_iload_n (pc := 48) (i := 0) rfl dd_Integer_bitCount_48 ?_
  refine mj_bipush (pc := 49) (v := (63 : Int32)) (by decide) dd_Integer_bitCount_49 ?_
  refine mj_iand (pc := 51) dd_Integer_bitCount_51 ?_
  exact mj_iret dd_Integer_bitCount_52 rfl rfl
def F_W_learns_b51 (M : mj_M) : Option (Int32 × mj_M) :=
    (F_W_refuse (2 : Int32) M).bind (fun q17 =>
     some (q17.1, q17.2))
set_option maxRecDepth 20000 in
theorem T_W_learns_b51 {g : mj_G} (e : Nat) (he : 2 ≤ e) (M : mj_M) : mj_X g (mj_qI g) "WinterTellers" c_W_learns 2 (some .int) e 51 [(0, .ref 0)] [] M (F_W_learns_b51 M) := by
  unfold F_W_learns_b51
  refine mj_aload_n (pc := 51) (i := 0) rfl dd_W_learns_51 ?_
  refine mj_iconst (pc := 52) (v := (2 : Int32)) (by decide) dd_W_learns_52 ?_
  refine mj_callVI (pc := 53) (idx := 195) (b := 0) (As := [.int (2 : Int32)]) (st := []) sh_0 cl_11 ev_W_refuse ql_W_195 rfl (Nat.le_of_ble_eq_true rfl) (T_W_refuse (g := g) e (by omega) (2 : Int32) M) dd_W_learns_53 (fun q17 hq17 => ?_)
  exact mj_iret dd_W_learns_56 rfl rfl
def F_W_learns (x1 : Int32) (M : mj_M) : Option (Int32 × mj_M) :=
    (F_Coast_hasTale x1 M).bind (fun q1 =>
     if q1.1 = (0) then
     ((F_W_refuse (0 : Int32) q1.2).bind (fun q16 =>
     some (q16.1, q16.2)))
     else
     ((F_Stand_owns x1 q1.2).bind (fun q3 =>
     if q3.1 = (0) then
     (mj_ck (((q3.2 20 0) * (6 : Int32)) + x1) 36 (
     if (q3.2 22 (((q3.2 20 0) * (6 : Int32)) + x1).toNatClampNeg) = (0) then
     (F_W_learns_b51 q3.2)
     else
     (if (1 : Int32) ≤ (q3.2 20 2) then
     ((F_Stand_hasDays (2 : Int32) q3.2).bind (fun q7 =>
     if q7.1 = (0) then
     ((F_W_refuse (4 : Int32) q7.2).bind (fun q14 =>
     some (q14.1, q14.2)))
     else
     ((F_Past_keep_c20 q7.2).bind (fun q9 =>
     mj_lt (mj_u q9 20 3 ((q9 20 3) + (2 : Int32))) (fun M10 =>
     mj_lt (mj_u M10 20 2 ((M10 20 2) - (1 : Int32))) (fun M11 =>
     mj_lt (mj_u M11 20 1 ((M11 20 1) ||| ((1 : Int32) <<< (x1 &&& 31)))) (fun M12 =>
     (F_Integer_bitCount (M12 20 1) M12).bind (fun q13 =>
     some (q13.1, q13.2)))))))))
     else
     ((F_W_refuse (3 : Int32) q3.2).bind (fun q15 =>
     some (q15.1, q15.2))))))
     else
     (F_W_learns_b51 q3.2))))
set_option maxRecDepth 20000 in
theorem T_W_learns {g : mj_G} : ∀ d, 3 ≤ d → ∀ (x1 : Int32) (M : mj_M), mj_Mt g (mj_qI g) d y_W_learns c_W_learns 2 (some .int) [.ref 0, .int x1] M (F_W_learns x1 M) := by
  intro d hd x1 M
  obtain ⟨e, rfl⟩ : ∃ e, d = e + 1 := ⟨d - 1, by omega⟩
  have he : 2 ≤ e := by omega
  refine mj_met (by decide +kernel) (Nat.le_of_ble_eq_true rfl) ?_
  unfold F_W_learns
  refine mj_L (L' := [(0, .ref 0), (1, .int x1)]) [0, 1] rfl ?_
  refine mj_aload_n (pc := 0) (i := 0) rfl dd_W_learns_0 ?_
  refine mj_getR (pc := 1) (b := 0) (k := 4) qf_W_42 sh_0 cl_11 rfl (by decide) (r := 13) rfl dd_W_learns_1 ?_
  refine mj_iload_n (pc := 4) (i := 1) rfl dd_W_learns_4 ?_
  refine mj_callVI (pc := 5) (idx := 163) (b := 13) (As := [.int x1]) (st := []) sh_13 cl_0 ev_Coast_hasTale ql_W_163 rfl (Nat.le_of_ble_eq_true rfl) (T_Coast_hasTale (g := g) e (by omega) x1 M) dd_W_learns_5 (fun q1 hq1 => ?_)
  refine mj_if_ne (pc := 8) (tgt := 17) dd_W_learns_8 rfl (fun h2 => ?_) (fun h2 => ?_)
  · refine mj_aload_n (pc := 11) (i := 0) rfl dd_W_learns_11 ?_
    refine mj_iconst (pc := 12) (v := (0 : Int32)) (by decide) dd_W_learns_12 ?_
    refine mj_callVI (pc := 13) (idx := 195) (b := 0) (As := [.int (0 : Int32)]) (st := []) sh_0 cl_11 ev_W_refuse ql_W_195 rfl (Nat.le_of_ble_eq_true rfl) (T_W_refuse (g := g) e (by omega) (0 : Int32) q1.2) dd_W_learns_13 (fun q16 hq16 => ?_)
    exact mj_iret dd_W_learns_16 rfl rfl
  · refine mj_aload_n (pc := 17) (i := 0) rfl dd_W_learns_17 ?_
    refine mj_getR (pc := 18) (b := 0) (k := 5) qf_W_49 sh_0 cl_11 rfl (by decide) (r := 20) rfl dd_W_learns_18 ?_
    refine mj_iload_n (pc := 21) (i := 1) rfl dd_W_learns_21 ?_
    refine mj_callVI (pc := 22) (idx := 178) (b := 20) (As := [.int x1]) (st := []) sh_20 cl_8 ev_Stand_owns ql_W_178 rfl (Nat.le_of_ble_eq_true rfl) (T_Stand_owns (g := g) e (by omega) x1 q1.2) dd_W_learns_22 (fun q3 hq3 => ?_)
    refine mj_if_ne (pc := 25) (tgt := 51) dd_W_learns_25 rfl (fun h4 => ?_) (fun h4 => ?_)
    · refine mj_aload_n (pc := 28) (i := 0) rfl dd_W_learns_28 ?_
      refine mj_getR (pc := 29) (b := 0) (k := 5) qf_W_49 sh_0 cl_11 rfl (by decide) (r := 20) rfl dd_W_learns_29 ?_
      refine mj_getR (pc := 32) (b := 20) (k := 8) qf_W_185 sh_20 cl_8 rfl (by decide) (r := 22) rfl dd_W_learns_32 ?_
      refine mj_aload_n (pc := 35) (i := 0) rfl dd_W_learns_35 ?_
      refine mj_getR (pc := 36) (b := 0) (k := 5) qf_W_49 sh_0 cl_11 rfl (by decide) (r := 20) rfl dd_W_learns_36 ?_
      refine mj_getI (pc := 39) (b := 20) (k := 0) qf_W_198 sh_20 cl_8 rfl (by decide) rfl dd_W_learns_39 ?_
      refine mj_bipush (pc := 42) (v := (6 : Int32)) (by decide) dd_W_learns_42 ?_
      refine mj_imul (pc := 44) dd_W_learns_44 ?_
      refine mj_iload_n (pc := 45) (i := 1) rfl dd_W_learns_45 ?_
      refine mj_iadd (pc := 46) dd_W_learns_46 ?_
      refine mj_iald (pc := 47) sh_22 dd_W_learns_47 ?_
      refine mj_if_ne (pc := 48) (tgt := 57) dd_W_learns_48 rfl (fun h5 => ?_) (fun h5 => ?_)
      · refine mj_L (L' := [(0, .ref 0)]) [0] rfl ?_
        exact T_W_learns_b51 (g := g) e he q3.2
      · refine mj_aload_n (pc := 57) (i := 0) rfl dd_W_learns_57 ?_
        refine mj_getR (pc := 58) (b := 0) (k := 5) qf_W_49 sh_0 cl_11 rfl (by decide) (r := 20) rfl dd_W_learns_58 ?_
        refine mj_getI (pc := 61) (b := 20) (k := 2) qf_W_218 sh_20 cl_8 rfl (by decide) rfl dd_W_learns_61 ?_
        refine mj_iconst (pc := 64) (v := (1 : Int32)) (by decide) dd_W_learns_64 ?_
        refine mj_icmp_ge (pc := 65) (tgt := 74) dd_W_learns_65 rfl (fun h6 => ?_) (fun h6 => ?_)
        · refine mj_aload_n (pc := 74) (i := 0) rfl dd_W_learns_74 ?_
          refine mj_getR (pc := 75) (b := 0) (k := 5) qf_W_49 sh_0 cl_11 rfl (by decide) (r := 20) rfl dd_W_learns_75 ?_
          refine mj_iconst (pc := 78) (v := (2 : Int32)) (by decide) dd_W_learns_78 ?_
          refine mj_callVI (pc := 79) (idx := 204) (b := 20) (As := [.int (2 : Int32)]) (st := []) sh_20 cl_8 ev_Stand_hasDays ql_W_204 rfl (Nat.le_of_ble_eq_true rfl) (T_Stand_hasDays (g := g) e (by omega) (2 : Int32) q3.2) dd_W_learns_79 (fun q7 hq7 => ?_)
          refine mj_if_ne (pc := 82) (tgt := 91) dd_W_learns_82 rfl (fun h8 => ?_) (fun h8 => ?_)
          · refine mj_aload_n (pc := 85) (i := 0) rfl dd_W_learns_85 ?_
            refine mj_iconst (pc := 86) (v := (4 : Int32)) (by decide) dd_W_learns_86 ?_
            refine mj_callVI (pc := 87) (idx := 195) (b := 0) (As := [.int (4 : Int32)]) (st := []) sh_0 cl_11 ev_W_refuse ql_W_195 rfl (Nat.le_of_ble_eq_true rfl) (T_W_refuse (g := g) e (by omega) (4 : Int32) q7.2) dd_W_learns_87 (fun q14 hq14 => ?_)
            exact mj_iret dd_W_learns_90 rfl rfl
          · refine mj_aload_n (pc := 91) (i := 0) rfl dd_W_learns_91 ?_
            refine mj_getR (pc := 92) (b := 0) (k := 6) qf_W_56 sh_0 cl_11 rfl (by decide) (r := 24) rfl dd_W_learns_92 ?_
            refine mj_aload_n (pc := 95) (i := 0) rfl dd_W_learns_95 ?_
            refine mj_getR (pc := 96) (b := 0) (k := 5) qf_W_49 sh_0 cl_11 rfl (by decide) (r := 20) rfl dd_W_learns_96 ?_
            refine mj_callVV (pc := 99) (idx := 207) (b := 24) (As := [.ref 20]) (st := []) sh_24 cl_6 ev_Past_keep ql_W_207 rfl (Nat.le_of_ble_eq_true rfl) (T_Past_keep_c20 (g := g) e (by omega) q7.2) dd_W_learns_99 (fun q9 hq9 => ?_)
            refine mj_aload_n (pc := 102) (i := 0) rfl dd_W_learns_102 ?_
            refine mj_getR (pc := 103) (b := 0) (k := 5) qf_W_49 sh_0 cl_11 rfl (by decide) (r := 20) rfl dd_W_learns_103 ?_
            refine mj_dup (pc := 106) rfl dd_W_learns_106 ?_
            refine mj_getI (pc := 107) (b := 20) (k := 3) qf_W_224 sh_20 cl_8 rfl (by decide) rfl dd_W_learns_107 ?_
            refine mj_iconst (pc := 110) (v := (2 : Int32)) (by decide) dd_W_learns_110 ?_
            refine mj_iadd (pc := 111) dd_W_learns_111 ?_
            refine mj_putI (pc := 112) (b := 20) (k := 3) qf_W_224 sh_20 cl_8 rfl (by decide) (by decide) rfl rfl rfl dd_W_learns_112 (fun M10 _ => ?_)
            refine mj_aload_n (pc := 115) (i := 0) rfl dd_W_learns_115 ?_
            refine mj_getR (pc := 116) (b := 0) (k := 5) qf_W_49 sh_0 cl_11 rfl (by decide) (r := 20) rfl dd_W_learns_116 ?_
            refine mj_dup (pc := 119) rfl dd_W_learns_119 ?_
            refine mj_getI (pc := 120) (b := 20) (k := 2) qf_W_218 sh_20 cl_8 rfl (by decide) rfl dd_W_learns_120 ?_
            refine mj_iconst (pc := 123) (v := (1 : Int32)) (by decide) dd_W_learns_123 ?_
            refine mj_isub (pc := 124) dd_W_learns_124 ?_
            refine mj_putI (pc := 125) (b := 20) (k := 2) qf_W_218 sh_20 cl_8 rfl (by decide) (by decide) rfl rfl rfl dd_W_learns_125 (fun M11 _ => ?_)
            refine mj_aload_n (pc := 128) (i := 0) rfl dd_W_learns_128 ?_
            refine mj_getR (pc := 129) (b := 0) (k := 5) qf_W_49 sh_0 cl_11 rfl (by decide) (r := 20) rfl dd_W_learns_129 ?_
            refine mj_dup (pc := 132) rfl dd_W_learns_132 ?_
            refine mj_getI (pc := 133) (b := 20) (k := 1) qf_W_227 sh_20 cl_8 rfl (by decide) rfl dd_W_learns_133 ?_
            refine mj_iconst (pc := 136) (v := (1 : Int32)) (by decide) dd_W_learns_136 ?_
            refine mj_iload_n (pc := 137) (i := 1) rfl dd_W_learns_137 ?_
            refine mj_ishl (pc := 138) dd_W_learns_138 ?_
            refine mj_ior (pc := 139) dd_W_learns_139 ?_
            refine mj_putI (pc := 140) (b := 20) (k := 1) qf_W_227 sh_20 cl_8 rfl (by decide) (by decide) rfl rfl rfl dd_W_learns_140 (fun M12 _ => ?_)
            refine mj_aload_n (pc := 143) (i := 0) rfl dd_W_learns_143 ?_
            refine mj_getR (pc := 144) (b := 0) (k := 5) qf_W_49 sh_0 cl_11 rfl (by decide) (r := 20) rfl dd_W_learns_144 ?_
            refine mj_getI (pc := 147) (b := 20) (k := 1) qf_W_227 sh_20 cl_8 rfl (by decide) rfl dd_W_learns_147 ?_
            refine mj_callSI (pc := 150) (idx := 230) (As := [.int (M12 20 1)]) (st := []) es_Integer_bitCount ql_W_230 rfl (Nat.le_of_ble_eq_true rfl) (T_Integer_bitCount (g := g) e (by omega) (M12 20 1) M12) dd_W_learns_150 (fun q13 hq13 => ?_)
            exact mj_iret dd_W_learns_153 rfl rfl
        · refine mj_aload_n (pc := 68) (i := 0) rfl dd_W_learns_68 ?_
          refine mj_iconst (pc := 69) (v := (3 : Int32)) (by decide) dd_W_learns_69 ?_
          refine mj_callVI (pc := 70) (idx := 195) (b := 0) (As := [.int (3 : Int32)]) (st := []) sh_0 cl_11 ev_W_refuse ql_W_195 rfl (Nat.le_of_ble_eq_true rfl) (T_W_refuse (g := g) e (by omega) (3 : Int32) q3.2) dd_W_learns_70 (fun q15 hq15 => ?_)
          exact mj_iret dd_W_learns_73 rfl rfl
    · refine mj_L (L' := [(0, .ref 0)]) [0] rfl ?_
      exact T_W_learns_b51 (g := g) e he q3.2
def F_M_learns_b68 (N : Nat) (x1 : Int32) (s1 : Int32) (M : mj_M) : Option (Int32 × mj_M) :=
    (F_M_isRefused s1 M).bind (fun q10 =>
     if q10.1 = (0) then
     ((F_M_keep N q10.2).bind (fun q12 =>
     mj_lt (mj_u q12 65 43 ((q12 65 43) ||| ((1 : Int32) <<< (x1 &&& 31)))) (fun M13 =>
     mj_lt (mj_u M13 65 44 ((M13 65 44) - (1 : Int32))) (fun M14 =>
     mj_lt (mj_u M14 65 45 ((M14 65 45) + (2 : Int32))) (fun M15 =>
     (F_Integer_bitCount (M15 65 43) M15).bind (fun q16 =>
     some (q16.1, q16.2)))))))
     else
     (some ((-1 : Int32), q10.2)))
set_option maxRecDepth 20000 in
theorem T_M_learns_b68 {g : mj_G} (N : Nat) (e : Nat) (he : 2 ≤ e) (x1 : Int32) (s1 : Int32) (M : mj_M) : mj_X g (mj_qI g) "WinterTellersModel" c_M_learns 2 (some .int) e 68 [(0, .ref 48), (1, .int x1)] [.int s1, .ref 48] M (F_M_learns_b68 N x1 s1 M) := by
  unfold F_M_learns_b68
  refine mj_callVI (pc := 68) (idx := 318) (b := 48) (As := [.int s1]) (st := []) sh_48 cl_12 ev_M_isRefused ql_M_318 rfl (Nat.le_of_ble_eq_true rfl) (T_M_isRefused (g := g) e (by omega) s1 M) dd_M_learns_68 (fun q10 hq10 => ?_)
  refine mj_if_eq (pc := 71) (tgt := 76) dd_M_learns_71 rfl (fun h11 => ?_) (fun h11 => ?_)
  · refine mj_aload_n (pc := 76) (i := 0) rfl dd_M_learns_76 ?_
    refine mj_callVV (pc := 77) (idx := 321) (b := 48) (As := []) (st := []) sh_48 cl_12 ev_M_keep ql_M_321 rfl (Nat.le_of_ble_eq_true rfl) (T_M_keep (g := g) N e (by omega) q10.2) dd_M_learns_77 (fun q12 hq12 => ?_)
    refine mj_aload_n (pc := 80) (i := 0) rfl dd_M_learns_80 ?_
    refine mj_getR (pc := 81) (b := 48) (k := 27) qf_M_58 sh_48 cl_12 rfl (by decide) (r := 65) rfl dd_M_learns_81 ?_
    refine mj_bipush (pc := 84) (v := (43 : Int32)) (by decide) dd_M_learns_84 ?_
    refine mj_dup2 (pc := 86) rfl rfl dd_M_learns_86 ?_
    refine mj_ialdK (pc := 87) (j := 43) sh_65 (by decide) rfl dd_M_learns_87 ?_
    refine mj_iconst (pc := 88) (v := (1 : Int32)) (by decide) dd_M_learns_88 ?_
    refine mj_iload_n (pc := 89) (i := 1) rfl dd_M_learns_89 ?_
    refine mj_ishl (pc := 90) dd_M_learns_90 ?_
    refine mj_ior (pc := 91) dd_M_learns_91 ?_
    refine mj_iastK (pc := 92) (j := 43) sh_65 (by decide) rfl dd_M_learns_92 (fun M13 _ => ?_)
    refine mj_aload_n (pc := 93) (i := 0) rfl dd_M_learns_93 ?_
    refine mj_getR (pc := 94) (b := 48) (k := 27) qf_M_58 sh_48 cl_12 rfl (by decide) (r := 65) rfl dd_M_learns_94 ?_
    refine mj_bipush (pc := 97) (v := (44 : Int32)) (by decide) dd_M_learns_97 ?_
    refine mj_dup2 (pc := 99) rfl rfl dd_M_learns_99 ?_
    refine mj_ialdK (pc := 100) (j := 44) sh_65 (by decide) rfl dd_M_learns_100 ?_
    refine mj_iconst (pc := 101) (v := (1 : Int32)) (by decide) dd_M_learns_101 ?_
    refine mj_isub (pc := 102) dd_M_learns_102 ?_
    refine mj_iastK (pc := 103) (j := 44) sh_65 (by decide) rfl dd_M_learns_103 (fun M14 _ => ?_)
    refine mj_aload_n (pc := 104) (i := 0) rfl dd_M_learns_104 ?_
    refine mj_getR (pc := 105) (b := 48) (k := 27) qf_M_58 sh_48 cl_12 rfl (by decide) (r := 65) rfl dd_M_learns_105 ?_
    refine mj_bipush (pc := 108) (v := (45 : Int32)) (by decide) dd_M_learns_108 ?_
    refine mj_dup2 (pc := 110) rfl rfl dd_M_learns_110 ?_
    refine mj_ialdK (pc := 111) (j := 45) sh_65 (by decide) rfl dd_M_learns_111 ?_
    refine mj_iconst (pc := 112) (v := (2 : Int32)) (by decide) dd_M_learns_112 ?_
    refine mj_iadd (pc := 113) dd_M_learns_113 ?_
    refine mj_iastK (pc := 114) (j := 45) sh_65 (by decide) rfl dd_M_learns_114 (fun M15 _ => ?_)
    refine mj_aload_n (pc := 115) (i := 0) rfl dd_M_learns_115 ?_
    refine mj_getR (pc := 116) (b := 48) (k := 27) qf_M_58 sh_48 cl_12 rfl (by decide) (r := 65) rfl dd_M_learns_116 ?_
    refine mj_bipush (pc := 119) (v := (43 : Int32)) (by decide) dd_M_learns_119 ?_
    refine mj_ialdK (pc := 121) (j := 43) sh_65 (by decide) rfl dd_M_learns_121 ?_
    refine mj_callSI (pc := 122) (idx := 330) (As := [.int (M15 65 43)]) (st := []) es_Integer_bitCount ql_M_330 rfl (Nat.le_of_ble_eq_true rfl) (T_Integer_bitCount (g := g) e (by omega) (M15 65 43) M15) dd_M_learns_122 (fun q16 hq16 => ?_)
    exact mj_iret dd_M_learns_125 rfl rfl
  · refine mj_iconst (pc := 74) (v := (-1 : Int32)) (by decide) dd_M_learns_74 ?_
    exact mj_iret dd_M_learns_75 rfl rfl
def F_M_learns_b36 (N : Nat) (x1 : Int32) (M : mj_M) : Option (Int32 × mj_M) :=
    F_M_learns_b68 N x1 (2 : Int32) M
set_option maxRecDepth 20000 in
theorem T_M_learns_b36 {g : mj_G} (N : Nat) (e : Nat) (he : 2 ≤ e) (x1 : Int32) (M : mj_M) : mj_X g (mj_qI g) "WinterTellersModel" c_M_learns 2 (some .int) e 36 [(0, .ref 48), (1, .int x1)] [.ref 48] M (F_M_learns_b36 N x1 M) := by
  unfold F_M_learns_b36
  refine mj_iconst (pc := 36) (v := (2 : Int32)) (by decide) dd_M_learns_36 ?_
  refine mj_goto (pc := 37) (tgt := 68) dd_M_learns_37 rfl ?_
  refine mj_L (L' := [(0, .ref 48), (1, .int x1)]) [0, 1] rfl ?_
  exact T_M_learns_b68 (g := g) N e he x1 (2 : Int32) M
def F_M_learns (N : Nat) (x1 : Int32) (M : mj_M) : Option (Int32 × mj_M) :=
    (F_M_isTale x1 M).bind (fun q1 =>
     if q1.1 = (0) then
     (F_M_learns_b68 N x1 (0 : Int32) q1.2)
     else
     ((F_M_owns x1 q1.2).bind (fun q3 =>
     if q3.1 = (0) then
     ((F_M_heardOf (q3.2 65 42) x1 q3.2).bind (fun q5 =>
     if q5.1 = (0) then
     (F_M_learns_b36 N x1 q5.2)
     else
     (if (1 : Int32) ≤ (q5.2 65 44) then
     ((F_M_isLate (2 : Int32) q5.2).bind (fun q8 =>
     if q8.1 = (0) then
     (F_M_learns_b68 N x1 (-1 : Int32) q8.2)
     else
     (F_M_learns_b68 N x1 (4 : Int32) q8.2)))
     else
     (F_M_learns_b68 N x1 (3 : Int32) q5.2))))
     else
     (F_M_learns_b36 N x1 q3.2))))
set_option maxRecDepth 20000 in
theorem T_M_learns {g : mj_G} (N : Nat) : ∀ d, 3 ≤ d → ∀ (x1 : Int32) (M : mj_M), mj_Mt g (mj_qI g) d y_M_learns c_M_learns 2 (some .int) [.ref 48, .int x1] M (F_M_learns N x1 M) := by
  intro d hd x1 M
  obtain ⟨e, rfl⟩ : ∃ e, d = e + 1 := ⟨d - 1, by omega⟩
  have he : 2 ≤ e := by omega
  refine mj_met (by decide +kernel) (Nat.le_of_ble_eq_true rfl) ?_
  unfold F_M_learns
  refine mj_L (L' := [(0, .ref 48), (1, .int x1)]) [0, 1] rfl ?_
  refine mj_aload_n (pc := 0) (i := 0) rfl dd_M_learns_0 ?_
  refine mj_aload_n (pc := 1) (i := 0) rfl dd_M_learns_1 ?_
  refine mj_iload_n (pc := 2) (i := 1) rfl dd_M_learns_2 ?_
  refine mj_callVI (pc := 3) (idx := 306) (b := 48) (As := [.int x1]) (st := [.ref 48]) sh_48 cl_12 ev_M_isTale ql_M_306 rfl (Nat.le_of_ble_eq_true rfl) (T_M_isTale (g := g) e (by omega) x1 M) dd_M_learns_3 (fun q1 hq1 => ?_)
  refine mj_if_ne (pc := 6) (tgt := 13) dd_M_learns_6 rfl (fun h2 => ?_) (fun h2 => ?_)
  · refine mj_iconst (pc := 9) (v := (0 : Int32)) (by decide) dd_M_learns_9 ?_
    refine mj_goto (pc := 10) (tgt := 68) dd_M_learns_10 rfl ?_
    refine mj_L (L' := [(0, .ref 48), (1, .int x1)]) [0, 1] rfl ?_
    exact T_M_learns_b68 (g := g) N e he x1 (0 : Int32) q1.2
  · refine mj_aload_n (pc := 13) (i := 0) rfl dd_M_learns_13 ?_
    refine mj_iload_n (pc := 14) (i := 1) rfl dd_M_learns_14 ?_
    refine mj_callVI (pc := 15) (idx := 309) (b := 48) (As := [.int x1]) (st := [.ref 48]) sh_48 cl_12 ev_M_owns ql_M_309 rfl (Nat.le_of_ble_eq_true rfl) (T_M_owns (g := g) e (by omega) x1 q1.2) dd_M_learns_15 (fun q3 hq3 => ?_)
    refine mj_if_ne (pc := 18) (tgt := 36) dd_M_learns_18 rfl (fun h4 => ?_) (fun h4 => ?_)
    · refine mj_aload_n (pc := 21) (i := 0) rfl dd_M_learns_21 ?_
      refine mj_aload_n (pc := 22) (i := 0) rfl dd_M_learns_22 ?_
      refine mj_getR (pc := 23) (b := 48) (k := 27) qf_M_58 sh_48 cl_12 rfl (by decide) (r := 65) rfl dd_M_learns_23 ?_
      refine mj_bipush (pc := 26) (v := (42 : Int32)) (by decide) dd_M_learns_26 ?_
      refine mj_ialdK (pc := 28) (j := 42) sh_65 (by decide) rfl dd_M_learns_28 ?_
      refine mj_iload_n (pc := 29) (i := 1) rfl dd_M_learns_29 ?_
      refine mj_callVI (pc := 30) (idx := 277) (b := 48) (As := [.int (q3.2 65 42), .int x1]) (st := [.ref 48]) sh_48 cl_12 ev_M_heardOf ql_M_277 rfl (Nat.le_of_ble_eq_true rfl) (T_M_heardOf (g := g) e (by omega) (q3.2 65 42) x1 q3.2) dd_M_learns_30 (fun q5 hq5 => ?_)
      refine mj_if_ne (pc := 33) (tgt := 40) dd_M_learns_33 rfl (fun h6 => ?_) (fun h6 => ?_)
      · refine mj_L (L' := [(0, .ref 48), (1, .int x1)]) [0, 1] rfl ?_
        exact T_M_learns_b36 (g := g) N e he x1 q5.2
      · refine mj_aload_n (pc := 40) (i := 0) rfl dd_M_learns_40 ?_
        refine mj_getR (pc := 41) (b := 48) (k := 27) qf_M_58 sh_48 cl_12 rfl (by decide) (r := 65) rfl dd_M_learns_41 ?_
        refine mj_bipush (pc := 44) (v := (44 : Int32)) (by decide) dd_M_learns_44 ?_
        refine mj_ialdK (pc := 46) (j := 44) sh_65 (by decide) rfl dd_M_learns_46 ?_
        refine mj_iconst (pc := 47) (v := (1 : Int32)) (by decide) dd_M_learns_47 ?_
        refine mj_icmp_ge (pc := 48) (tgt := 55) dd_M_learns_48 rfl (fun h7 => ?_) (fun h7 => ?_)
        · refine mj_aload_n (pc := 55) (i := 0) rfl dd_M_learns_55 ?_
          refine mj_iconst (pc := 56) (v := (2 : Int32)) (by decide) dd_M_learns_56 ?_
          refine mj_callVI (pc := 57) (idx := 312) (b := 48) (As := [.int (2 : Int32)]) (st := [.ref 48]) sh_48 cl_12 ev_M_isLate ql_M_312 rfl (Nat.le_of_ble_eq_true rfl) (T_M_isLate (g := g) e (by omega) (2 : Int32) q5.2) dd_M_learns_57 (fun q8 hq8 => ?_)
          refine mj_if_eq (pc := 60) (tgt := 67) dd_M_learns_60 rfl (fun h9 => ?_) (fun h9 => ?_)
          · refine mj_iconst (pc := 67) (v := (-1 : Int32)) (by decide) dd_M_learns_67 ?_
            refine mj_L (L' := [(0, .ref 48), (1, .int x1)]) [0, 1] rfl ?_
            exact T_M_learns_b68 (g := g) N e he x1 (-1 : Int32) q8.2
          · refine mj_iconst (pc := 63) (v := (4 : Int32)) (by decide) dd_M_learns_63 ?_
            refine mj_goto (pc := 64) (tgt := 68) dd_M_learns_64 rfl ?_
            refine mj_L (L' := [(0, .ref 48), (1, .int x1)]) [0, 1] rfl ?_
            exact T_M_learns_b68 (g := g) N e he x1 (4 : Int32) q8.2
        · refine mj_iconst (pc := 51) (v := (3 : Int32)) (by decide) dd_M_learns_51 ?_
          refine mj_goto (pc := 52) (tgt := 68) dd_M_learns_52 rfl ?_
          refine mj_L (L' := [(0, .ref 48), (1, .int x1)]) [0, 1] rfl ?_
          exact T_M_learns_b68 (g := g) N e he x1 (3 : Int32) q5.2
    · refine mj_L (L' := [(0, .ref 48), (1, .int x1)]) [0, 1] rfl ?_
      exact T_M_learns_b36 (g := g) N e he x1 q3.2
