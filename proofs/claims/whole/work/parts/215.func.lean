/-! ===== functions and their proofs ===== -/
def F_M_tryTwo_body_b40 (N : Nat) (K : Int32 → Int32 → Int32 → mj_M → Option (mj_M)) : Nat → Int32 → Int32 → Int32 → Int32 → mj_M → Option (mj_M)
  | 0, _, _, _, _, _ => none
  | n + 1, x1, x2, x3, x4, M =>
    if ((M 48 25) * (M 48 26)) ≤ x4 then
     (some M)
     else
     (if (M 48 26) = 0 then none else
     mj_lt (x4 / (M 48 26)) (fun v10 =>
     if (M 48 26) = 0 then none else
     mj_lt (x4 - x4 / (M 48 26) * (M 48 26)) (fun v11 =>
     (F_M_owns v11 M).bind (fun q12 =>
     if q12.1 = (0) then
     (F_M_tryTwo_body_b40 N K n x1 x2 x3 (x4 + (1 : Int32)) q12.2)
     else
     ((F_M_farTo v10 q12.2).bind (fun q14 =>
     if (q12.2 65 44) < q14.1 then
     (F_M_tryTwo_body_b40 N K n x1 x2 x3 (x4 + (1 : Int32)) q14.2)
     else
     ((F_M_goNow v10 q14.2).bind (fun q16 =>
     (F_M_tellNow N v11 q16).bind (fun q17 =>
     (K (x1 + (1 : Int32)) ((((100 : Int32) * x2) + ((10 : Int32) * v10)) + v11) (x3 + q17.1) q17.2).bind (fun q18 =>
     (F_M_takeBack N x1 q18).bind (fun q19 =>
     F_M_tryTwo_body_b40 N K n x1 x2 x3 (x4 + (1 : Int32)) q19)))))))))))
set_option maxRecDepth 20000 in
theorem T_M_tryTwo_body_b40 {g : mj_G} (N : Nat) (K : Int32 → Int32 → Int32 → mj_M → Option (mj_M)) (dk : Nat) (hdk : 10 ≤ dk) (hK : ∀ e, dk ≤ e → ∀ (a0 : Int32) (a1 : Int32) (a2 : Int32) (M : mj_M), mj_Mt g (mj_qV g) e y_M_tryTwo c_M_tryTwo 8 none [.ref 48, .int a0, .int a1, .int a2] M (K a0 a1 a2 M)) (e : Nat) (he : dk + 0 ≤ e) : ∀ (n : Nat) (x1 : Int32) (x2 : Int32) (x3 : Int32) (x4 : Int32) (M : mj_M), mj_X g (mj_qV g) "WinterTellersModel" c_M_tryTwo 8 none e 40 [(0, .ref 48), (1, .int x1), (2, .int x2), (3, .int x3), (4, .int x4)] [] M (F_M_tryTwo_body_b40 N K n x1 x2 x3 x4 M) := by
  intro n
  induction n with
  | zero => intro x1 x2 x3 x4 M; exact mj_none
  | succ n ih =>
    intro x1 x2 x3 x4 M
    rw [F_M_tryTwo_body_b40]
    refine mj_iload (pc := 40) (i := 4) rfl dd_M_tryTwo_40 ?_
    refine mj_aload_n (pc := 42) (i := 0) rfl dd_M_tryTwo_42 ?_
    refine mj_getI (pc := 43) (b := 48) (k := 25) qf_M_242 sh_48 cl_12 rfl (by decide) rfl dd_M_tryTwo_43 ?_
    refine mj_aload_n (pc := 46) (i := 0) rfl dd_M_tryTwo_46 ?_
    refine mj_getI (pc := 47) (b := 48) (k := 26) qf_M_245 sh_48 cl_12 rfl (by decide) rfl dd_M_tryTwo_47 ?_
    refine mj_imul (pc := 50) dd_M_tryTwo_50 ?_
    refine mj_icmp_ge (pc := 51) (tgt := 146) dd_M_tryTwo_51 rfl (fun h9 => ?_) (fun h9 => ?_)
    · exact mj_vret dd_M_tryTwo_146 rfl rfl
    · refine mj_iload (pc := 54) (i := 4) rfl dd_M_tryTwo_54 ?_
      refine mj_aload_n (pc := 56) (i := 0) rfl dd_M_tryTwo_56 ?_
      refine mj_getI (pc := 57) (b := 48) (k := 26) qf_M_245 sh_48 cl_12 rfl (by decide) rfl dd_M_tryTwo_57 ?_
      refine mj_idiv (pc := 60) dd_M_tryTwo_60 ?_
      refine mj_istoreL (pc := 61) (by decide) dd_M_tryTwo_61 (fun v10 _ => ?_)
      refine mj_L (L' := [(5, .int v10), (0, .ref 48), (1, .int x1), (2, .int x2), (3, .int x3), (4, .int x4)]) [0, 1, 2, 3, 4, 5] rfl ?_
      refine mj_iload (pc := 63) (i := 4) rfl dd_M_tryTwo_63 ?_
      refine mj_aload_n (pc := 65) (i := 0) rfl dd_M_tryTwo_65 ?_
      refine mj_getI (pc := 66) (b := 48) (k := 26) qf_M_245 sh_48 cl_12 rfl (by decide) rfl dd_M_tryTwo_66 ?_
      refine mj_irem (pc := 69) dd_M_tryTwo_69 ?_
      refine mj_istoreL (pc := 70) (by decide) dd_M_tryTwo_70 (fun v11 _ => ?_)
      refine mj_L (L' := [(6, .int v11), (5, .int v10), (0, .ref 48), (1, .int x1), (2, .int x2), (3, .int x3), (4, .int x4)]) [0, 1, 2, 3, 4, 5, 6] rfl ?_
      refine mj_aload_n (pc := 72) (i := 0) rfl dd_M_tryTwo_72 ?_
      refine mj_iload (pc := 73) (i := 6) rfl dd_M_tryTwo_73 ?_
      refine mj_callVI (pc := 75) (idx := 309) (b := 48) (As := [.int v11]) (st := []) sh_48 cl_12 ev_M_owns ql_M_309 rfl (Nat.le_of_ble_eq_true rfl) (T_M_owns (g := g) e (by omega) v11 M) dd_M_tryTwo_75 (fun q12 hq12 => ?_)
      refine mj_if_eq (pc := 78) (tgt := 140) dd_M_tryTwo_78 rfl (fun h13 => ?_) (fun h13 => ?_)
      · refine mj_iinc (pc := 140) (i := 4) (z := (1 : Int32)) rfl (by decide) (by decide) dd_M_tryTwo_140 ?_
        refine mj_L (L' := [(4, .int (x4 + (1 : Int32))), (0, .ref 48), (1, .int x1), (2, .int x2), (3, .int x3)]) [0, 3, 4, 5, 6] rfl ?_
        refine mj_goto (pc := 143) (tgt := 40) dd_M_tryTwo_143 rfl ?_
        refine mj_L (L' := [(0, .ref 48), (1, .int x1), (2, .int x2), (3, .int x3), (4, .int (x4 + (1 : Int32)))]) [1, 2, 3, 4, 0] rfl ?_
        exact ih x1 x2 x3 (x4 + (1 : Int32)) q12.2
      · refine mj_aload_n (pc := 81) (i := 0) rfl dd_M_tryTwo_81 ?_
        refine mj_getR (pc := 82) (b := 48) (k := 27) qf_M_58 sh_48 cl_12 rfl (by decide) (r := 65) rfl dd_M_tryTwo_82 ?_
        refine mj_bipush (pc := 85) (v := (44 : Int32)) (by decide) dd_M_tryTwo_85 ?_
        refine mj_ialdK (pc := 87) (j := 44) sh_65 (by decide) rfl dd_M_tryTwo_87 ?_
        refine mj_aload_n (pc := 88) (i := 0) rfl dd_M_tryTwo_88 ?_
        refine mj_iload (pc := 89) (i := 5) rfl dd_M_tryTwo_89 ?_
        refine mj_callVI (pc := 91) (idx := 290) (b := 48) (As := [.int v10]) (st := [.int (q12.2 65 44)]) sh_48 cl_12 ev_M_farTo ql_M_290 rfl (Nat.le_of_ble_eq_true rfl) (T_M_farTo (g := g) e (by omega) v10 q12.2) dd_M_tryTwo_91 (fun q14 hq14 => ?_)
        refine mj_icmp_lt (pc := 94) (tgt := 140) dd_M_tryTwo_94 rfl (fun h15 => ?_) (fun h15 => ?_)
        · refine mj_iinc (pc := 140) (i := 4) (z := (1 : Int32)) rfl (by decide) (by decide) dd_M_tryTwo_140 ?_
          refine mj_L (L' := [(4, .int (x4 + (1 : Int32))), (0, .ref 48), (1, .int x1), (2, .int x2), (3, .int x3)]) [0, 3, 4, 5, 6] rfl ?_
          refine mj_goto (pc := 143) (tgt := 40) dd_M_tryTwo_143 rfl ?_
          refine mj_L (L' := [(0, .ref 48), (1, .int x1), (2, .int x2), (3, .int x3), (4, .int (x4 + (1 : Int32)))]) [1, 2, 3, 4, 0] rfl ?_
          exact ih x1 x2 x3 (x4 + (1 : Int32)) q14.2
        · refine mj_aload_n (pc := 97) (i := 0) rfl dd_M_tryTwo_97 ?_
          refine mj_iload (pc := 98) (i := 5) rfl dd_M_tryTwo_98 ?_
          refine mj_callVV (pc := 100) (idx := 327) (b := 48) (As := [.int v10]) (st := []) sh_48 cl_12 ev_M_goNow ql_M_327 rfl (Nat.le_of_ble_eq_true rfl) (T_M_goNow (g := g) e (by omega) v10 q14.2) dd_M_tryTwo_100 (fun q16 hq16 => ?_)
          refine mj_aload_n (pc := 103) (i := 0) rfl dd_M_tryTwo_103 ?_
          refine mj_iload (pc := 104) (i := 6) rfl dd_M_tryTwo_104 ?_
          refine mj_callVI (pc := 106) (idx := 293) (b := 48) (As := [.int v11]) (st := []) sh_48 cl_12 ev_M_tellNow ql_M_293 rfl (Nat.le_of_ble_eq_true rfl) (T_M_tellNow (g := g) N e (by omega) v11 q16) dd_M_tryTwo_106 (fun q17 hq17 => ?_)
          refine mj_istore (pc := 109) (by decide) dd_M_tryTwo_109 ?_
          refine mj_L (L' := [(7, .int q17.1), (6, .int v11), (5, .int v10), (0, .ref 48), (1, .int x1), (2, .int x2), (3, .int x3), (4, .int x4)]) [0, 1, 2, 3, 4, 5, 6, 7] rfl ?_
          refine mj_aload_n (pc := 111) (i := 0) rfl dd_M_tryTwo_111 ?_
          refine mj_iload_n (pc := 112) (i := 1) rfl dd_M_tryTwo_112 ?_
          refine mj_iconst (pc := 113) (v := (1 : Int32)) (by decide) dd_M_tryTwo_113 ?_
          refine mj_iadd (pc := 114) dd_M_tryTwo_114 ?_
          refine mj_bipush (pc := 115) (v := (100 : Int32)) (by decide) dd_M_tryTwo_115 ?_
          refine mj_iload_n (pc := 117) (i := 2) rfl dd_M_tryTwo_117 ?_
          refine mj_imul (pc := 118) dd_M_tryTwo_118 ?_
          refine mj_bipush (pc := 119) (v := (10 : Int32)) (by decide) dd_M_tryTwo_119 ?_
          refine mj_iload (pc := 121) (i := 5) rfl dd_M_tryTwo_121 ?_
          refine mj_imul (pc := 123) dd_M_tryTwo_123 ?_
          refine mj_iadd (pc := 124) dd_M_tryTwo_124 ?_
          refine mj_iload (pc := 125) (i := 6) rfl dd_M_tryTwo_125 ?_
          refine mj_iadd (pc := 127) dd_M_tryTwo_127 ?_
          refine mj_iload_n (pc := 128) (i := 3) rfl dd_M_tryTwo_128 ?_
          refine mj_iload (pc := 129) (i := 7) rfl dd_M_tryTwo_129 ?_
          refine mj_iadd (pc := 131) dd_M_tryTwo_131 ?_
          refine mj_callVV (pc := 132) (idx := 361) (b := 48) (As := [.int (x1 + (1 : Int32)), .int ((((100 : Int32) * x2) + ((10 : Int32) * v10)) + v11), .int (x3 + q17.1)]) (st := []) sh_48 cl_12 ev_M_tryTwo ql_M_361 rfl (Nat.le_of_ble_eq_true rfl) (hK e (by omega) (x1 + (1 : Int32)) ((((100 : Int32) * x2) + ((10 : Int32) * v10)) + v11) (x3 + q17.1) q17.2) dd_M_tryTwo_132 (fun q18 hq18 => ?_)
          refine mj_aload_n (pc := 135) (i := 0) rfl dd_M_tryTwo_135 ?_
          refine mj_iload_n (pc := 136) (i := 1) rfl dd_M_tryTwo_136 ?_
          refine mj_callVV (pc := 137) (idx := 364) (b := 48) (As := [.int x1]) (st := []) sh_48 cl_12 ev_M_takeBack ql_M_364 rfl (Nat.le_of_ble_eq_true rfl) (T_M_takeBack (g := g) N e (by omega) x1 q18) dd_M_tryTwo_137 (fun q19 hq19 => ?_)
          refine mj_iinc (pc := 140) (i := 4) (z := (1 : Int32)) rfl (by decide) (by decide) dd_M_tryTwo_140 ?_
          refine mj_L (L' := [(4, .int (x4 + (1 : Int32))), (0, .ref 48), (1, .int x1), (2, .int x2), (3, .int x3)]) [0, 4, 5, 6, 7] rfl ?_
          refine mj_goto (pc := 143) (tgt := 40) dd_M_tryTwo_143 rfl ?_
          refine mj_L (L' := [(0, .ref 48), (1, .int x1), (2, .int x2), (3, .int x3), (4, .int (x4 + (1 : Int32)))]) [1, 2, 3, 4, 0] rfl ?_
          exact ih x1 x2 x3 (x4 + (1 : Int32)) q19
def F_M_tryTwo_body (N : Nat) (K : Int32 → Int32 → Int32 → mj_M → Option (mj_M)) (x1 : Int32) (x2 : Int32) (x3 : Int32) (M : mj_M) : Option (mj_M) :=
    if x1 = (2 : Int32) then
     (if (M 48 35) = (-1 : Int32) then
     (mj_lt (mj_u M 48 35 x2) (fun M4 =>
     mj_lt (mj_u M4 48 36 x3) (fun M5 =>
     some M5)))
     else
     (if x3 ≤ (M 48 36) then
     (some M)
     else
     (mj_lt (mj_u M 48 35 x2) (fun M7 =>
     mj_lt (mj_u M7 48 36 x3) (fun M8 =>
     some M8)))))
     else
     ((F_M_putAside N x1 M).bind (fun q2 =>
     F_M_tryTwo_body_b40 N K N x1 x2 x3 (0 : Int32) q2))
set_option maxRecDepth 20000 in
theorem T_M_tryTwo_body {g : mj_G} (N : Nat) (K : Int32 → Int32 → Int32 → mj_M → Option (mj_M)) (dk : Nat) (hdk : 10 ≤ dk) (hK : ∀ e, dk ≤ e → ∀ (a0 : Int32) (a1 : Int32) (a2 : Int32) (M : mj_M), mj_Mt g (mj_qV g) e y_M_tryTwo c_M_tryTwo 8 none [.ref 48, .int a0, .int a1, .int a2] M (K a0 a1 a2 M)) : ∀ d, dk + 1 ≤ d → ∀ (x1 : Int32) (x2 : Int32) (x3 : Int32) (M : mj_M), mj_Mt g (mj_qV g) d y_M_tryTwo c_M_tryTwo 8 none [.ref 48, .int x1, .int x2, .int x3] M (F_M_tryTwo_body N K x1 x2 x3 M) := by
  intro d hd x1 x2 x3 M
  obtain ⟨e, rfl⟩ : ∃ e, d = e + 1 := ⟨d - 1, by omega⟩
  have he : dk + 0 ≤ e := by omega
  refine mj_met (by decide +kernel) (Nat.le_of_ble_eq_true rfl) ?_
  unfold F_M_tryTwo_body
  refine mj_L (L' := [(0, .ref 48), (1, .int x1), (2, .int x2), (3, .int x3)]) [0, 1, 2, 3] rfl ?_
  refine mj_iload_n (pc := 0) (i := 1) rfl dd_M_tryTwo_0 ?_
  refine mj_iconst (pc := 1) (v := (2 : Int32)) (by decide) dd_M_tryTwo_1 ?_
  refine mj_icmp_ne (pc := 2) (tgt := 32) dd_M_tryTwo_2 rfl (fun h1 => ?_) (fun h1 => ?_)
  · refine mj_aload_n (pc := 5) (i := 0) rfl dd_M_tryTwo_5 ?_
    refine mj_getI (pc := 6) (b := 48) (k := 35) qf_M_352 sh_48 cl_12 rfl (by decide) rfl dd_M_tryTwo_6 ?_
    refine mj_iconst (pc := 9) (v := (-1 : Int32)) (by decide) dd_M_tryTwo_9 ?_
    refine mj_icmp_eq (pc := 10) (tgt := 21) dd_M_tryTwo_10 rfl (fun h3 => ?_) (fun h3 => ?_)
    · refine mj_aload_n (pc := 21) (i := 0) rfl dd_M_tryTwo_21 ?_
      refine mj_iload_n (pc := 22) (i := 2) rfl dd_M_tryTwo_22 ?_
      refine mj_putI (pc := 23) (b := 48) (k := 35) qf_M_352 sh_48 cl_12 rfl (by decide) (by decide) rfl rfl rfl dd_M_tryTwo_23 (fun M4 _ => ?_)
      refine mj_aload_n (pc := 26) (i := 0) rfl dd_M_tryTwo_26 ?_
      refine mj_iload_n (pc := 27) (i := 3) rfl dd_M_tryTwo_27 ?_
      refine mj_putI (pc := 28) (b := 48) (k := 36) qf_M_355 sh_48 cl_12 rfl (by decide) (by decide) rfl rfl rfl dd_M_tryTwo_28 (fun M5 _ => ?_)
      exact mj_vret dd_M_tryTwo_31 rfl rfl
    · refine mj_iload_n (pc := 13) (i := 3) rfl dd_M_tryTwo_13 ?_
      refine mj_aload_n (pc := 14) (i := 0) rfl dd_M_tryTwo_14 ?_
      refine mj_getI (pc := 15) (b := 48) (k := 36) qf_M_355 sh_48 cl_12 rfl (by decide) rfl dd_M_tryTwo_15 ?_
      refine mj_icmp_le (pc := 18) (tgt := 31) dd_M_tryTwo_18 rfl (fun h6 => ?_) (fun h6 => ?_)
      · exact mj_vret dd_M_tryTwo_31 rfl rfl
      · refine mj_aload_n (pc := 21) (i := 0) rfl dd_M_tryTwo_21 ?_
        refine mj_iload_n (pc := 22) (i := 2) rfl dd_M_tryTwo_22 ?_
        refine mj_putI (pc := 23) (b := 48) (k := 35) qf_M_352 sh_48 cl_12 rfl (by decide) (by decide) rfl rfl rfl dd_M_tryTwo_23 (fun M7 _ => ?_)
        refine mj_aload_n (pc := 26) (i := 0) rfl dd_M_tryTwo_26 ?_
        refine mj_iload_n (pc := 27) (i := 3) rfl dd_M_tryTwo_27 ?_
        refine mj_putI (pc := 28) (b := 48) (k := 36) qf_M_355 sh_48 cl_12 rfl (by decide) (by decide) rfl rfl rfl dd_M_tryTwo_28 (fun M8 _ => ?_)
        exact mj_vret dd_M_tryTwo_31 rfl rfl
  · refine mj_aload_n (pc := 32) (i := 0) rfl dd_M_tryTwo_32 ?_
    refine mj_iload_n (pc := 33) (i := 1) rfl dd_M_tryTwo_33 ?_
    refine mj_callVV (pc := 34) (idx := 358) (b := 48) (As := [.int x1]) (st := []) sh_48 cl_12 ev_M_putAside ql_M_358 rfl (Nat.le_of_ble_eq_true rfl) (T_M_putAside (g := g) N e (by omega) x1 M) dd_M_tryTwo_34 (fun q2 hq2 => ?_)
    refine mj_iconst (pc := 37) (v := (0 : Int32)) (by decide) dd_M_tryTwo_37 ?_
    refine mj_istore (pc := 38) (by decide) dd_M_tryTwo_38 ?_
    refine mj_L (L' := [(4, .int (0 : Int32)), (0, .ref 48), (1, .int x1), (2, .int x2), (3, .int x3)]) [0, 1, 2, 3, 4] rfl ?_
    refine mj_L (L' := [(0, .ref 48), (1, .int x1), (2, .int x2), (3, .int x3), (4, .int (0 : Int32))]) [1, 2, 3, 4, 0] rfl ?_
    exact T_M_tryTwo_body_b40 (g := g) N K dk hdk hK e he N x1 x2 x3 (0 : Int32) q2
def F_M_tryTwo (N : Nat) : Nat → Int32 → Int32 → Int32 → mj_M → Option (mj_M)
  | 0, _, _, _, _ => none
  | n + 1, x1, x2, x3, M => F_M_tryTwo_body N (F_M_tryTwo N n) x1 x2 x3 M
theorem T_M_tryTwo {g : mj_G} (N : Nat) : ∀ (n d : Nat), 10 + 2 * n ≤ d → ∀ (x1 : Int32) (x2 : Int32) (x3 : Int32) (M : mj_M), mj_Mt g (mj_qV g) d y_M_tryTwo c_M_tryTwo 8 none [.ref 48, .int x1, .int x2, .int x3] M (F_M_tryTwo N n x1 x2 x3 M) := by
  intro n
  induction n with
  | zero => intro d _ x1 x2 x3 M q hq; cases hq
  | succ n ih =>
    intro d hd x1 x2 x3 M
    exact T_M_tryTwo_body (g := g) N (F_M_tryTwo N n) (10 + 2 * n) (by omega) (fun e he => ih e he) d (by omega) x1 x2 x3 M
def F_M_two (N : Nat) (x1 : Int32) (M : mj_M) : Option (Int32 × mj_M) :=
    if (M 48 25) = (0) then
     (some ((-1 : Int32), M))
     else
     ((F_M_in x1 (0 : Int32) (1 : Int32) M).bind (fun q2 =>
     if q2.1 = (0) then
     (some ((-1 : Int32), q2.2))
     else
     (mj_lt (mj_u q2.2 48 35 (-1 : Int32)) (fun M4 =>
     (F_M_tryTwo N 10 (0 : Int32) (0 : Int32) (0 : Int32) M4).bind (fun q5 =>
     if (q5 48 35) = (-1 : Int32) then
     (some (q5 48 35, q5))
     else
     (if x1 = (0) then
     (some (q5 48 35, q5))
     else
     (some (q5 48 36, q5))))))))
set_option maxRecDepth 20000 in
theorem T_M_two {g : mj_G} (N : Nat) : ∀ d, 31 ≤ d → ∀ (x1 : Int32) (M : mj_M), mj_Mt g (mj_qI g) d y_M_two c_M_two 2 (some .int) [.ref 48, .int x1] M (F_M_two N x1 M) := by
  intro d hd x1 M
  obtain ⟨e, rfl⟩ : ∃ e, d = e + 1 := ⟨d - 1, by omega⟩
  have he : 30 ≤ e := by omega
  refine mj_met (by decide +kernel) (Nat.le_of_ble_eq_true rfl) ?_
  unfold F_M_two
  refine mj_L (L' := [(0, .ref 48), (1, .int x1)]) [0, 1] rfl ?_
  refine mj_aload_n (pc := 0) (i := 0) rfl dd_M_two_0 ?_
  refine mj_getI (pc := 1) (b := 48) (k := 25) qf_M_242 sh_48 cl_12 rfl (by decide) rfl dd_M_two_1 ?_
  refine mj_if_eq (pc := 4) (tgt := 16) dd_M_two_4 rfl (fun h1 => ?_) (fun h1 => ?_)
  · refine mj_iconst (pc := 16) (v := (-1 : Int32)) (by decide) dd_M_two_16 ?_
    exact mj_iret dd_M_two_17 rfl rfl
  · refine mj_iload_n (pc := 7) (i := 1) rfl dd_M_two_7 ?_
    refine mj_iconst (pc := 8) (v := (0 : Int32)) (by decide) dd_M_two_8 ?_
    refine mj_iconst (pc := 9) (v := (1 : Int32)) (by decide) dd_M_two_9 ?_
    refine mj_callSI (pc := 10) (idx := 205) (As := [.int x1, .int (0 : Int32), .int (1 : Int32)]) (st := []) es_M_in ql_M_205 rfl (Nat.le_of_ble_eq_true rfl) (T_M_in (g := g) e (by omega) x1 (0 : Int32) (1 : Int32) M) dd_M_two_10 (fun q2 hq2 => ?_)
    refine mj_if_ne (pc := 13) (tgt := 18) dd_M_two_13 rfl (fun h3 => ?_) (fun h3 => ?_)
    · refine mj_iconst (pc := 16) (v := (-1 : Int32)) (by decide) dd_M_two_16 ?_
      exact mj_iret dd_M_two_17 rfl rfl
    · refine mj_aload_n (pc := 18) (i := 0) rfl dd_M_two_18 ?_
      refine mj_iconst (pc := 19) (v := (-1 : Int32)) (by decide) dd_M_two_19 ?_
      refine mj_putI (pc := 20) (b := 48) (k := 35) qf_M_352 sh_48 cl_12 rfl (by decide) (by decide) rfl rfl rfl dd_M_two_20 (fun M4 _ => ?_)
      refine mj_aload_n (pc := 23) (i := 0) rfl dd_M_two_23 ?_
      refine mj_iconst (pc := 24) (v := (0 : Int32)) (by decide) dd_M_two_24 ?_
      refine mj_iconst (pc := 25) (v := (0 : Int32)) (by decide) dd_M_two_25 ?_
      refine mj_iconst (pc := 26) (v := (0 : Int32)) (by decide) dd_M_two_26 ?_
      refine mj_callVV (pc := 27) (idx := 361) (b := 48) (As := [.int (0 : Int32), .int (0 : Int32), .int (0 : Int32)]) (st := []) sh_48 cl_12 ev_M_tryTwo ql_M_361 rfl (Nat.le_of_ble_eq_true rfl) (T_M_tryTwo (g := g) N 10 e (by omega) (0 : Int32) (0 : Int32) (0 : Int32) M4) dd_M_two_27 (fun q5 hq5 => ?_)
      refine mj_aload_n (pc := 30) (i := 0) rfl dd_M_two_30 ?_
      refine mj_getI (pc := 31) (b := 48) (k := 35) qf_M_352 sh_48 cl_12 rfl (by decide) rfl dd_M_two_31 ?_
      refine mj_iconst (pc := 34) (v := (-1 : Int32)) (by decide) dd_M_two_34 ?_
      refine mj_icmp_eq (pc := 35) (tgt := 42) dd_M_two_35 rfl (fun h6 => ?_) (fun h6 => ?_)
      · refine mj_aload_n (pc := 42) (i := 0) rfl dd_M_two_42 ?_
        refine mj_getI (pc := 43) (b := 48) (k := 35) qf_M_352 sh_48 cl_12 rfl (by decide) rfl dd_M_two_43 ?_
        refine mj_goto (pc := 46) (tgt := 53) dd_M_two_46 rfl ?_
        exact mj_iret dd_M_two_53 rfl rfl
      · refine mj_iload_n (pc := 38) (i := 1) rfl dd_M_two_38 ?_
        refine mj_if_ne (pc := 39) (tgt := 49) dd_M_two_39 rfl (fun h7 => ?_) (fun h7 => ?_)
        · refine mj_aload_n (pc := 42) (i := 0) rfl dd_M_two_42 ?_
          refine mj_getI (pc := 43) (b := 48) (k := 35) qf_M_352 sh_48 cl_12 rfl (by decide) rfl dd_M_two_43 ?_
          refine mj_goto (pc := 46) (tgt := 53) dd_M_two_46 rfl ?_
          exact mj_iret dd_M_two_53 rfl rfl
        · refine mj_aload_n (pc := 49) (i := 0) rfl dd_M_two_49 ?_
          refine mj_getI (pc := 50) (b := 48) (k := 36) qf_M_355 sh_48 cl_12 rfl (by decide) rfl dd_M_two_50 ?_
          exact mj_iret dd_M_two_53 rfl rfl
def F_Arrays_fill_c37_b5 (N : Nat) : Nat → Int32 → Int32 → Int32 → mj_M → Option (mj_M)
  | 0, _, _, _, _ => none
  | n + 1, x1, x2, x3, M =>
    if x3 ≤ x2 then
     (some M)
     else
     (mj_ck x2 448 (mj_lt (mj_u M 37 x2.toNatClampNeg x1) (fun M2 =>
     F_Arrays_fill_c37_b5 N n x1 (x2 + (1 : Int32)) x3 M2)))
set_option maxRecDepth 20000 in
theorem T_Arrays_fill_c37_b5 {g : mj_G} (N : Nat) (e : Nat) (he : 0 ≤ e) : ∀ (n : Nat) (x1 : Int32) (x2 : Int32) (x3 : Int32) (M : mj_M), mj_X g (mj_qV g) "java/util/Arrays" c_Arrays_fill 4 none e 5 [(0, .ref 37), (1, .int x1), (2, .int x2), (3, .int x3)] [] M (F_Arrays_fill_c37_b5 N n x1 x2 x3 M) := by
  intro n
  induction n with
  | zero => intro x1 x2 x3 M; exact mj_none
  | succ n ih =>
    intro x1 x2 x3 M
    rw [F_Arrays_fill_c37_b5]
    refine mj_iload_n (pc := 5) (i := 2) rfl dd_Arrays_fill_5 ?_
    refine mj_iload_n (pc := 6) (i := 3) rfl dd_Arrays_fill_6 ?_
    refine mj_icmp_ge (pc := 7) (tgt := 20) dd_Arrays_fill_7 rfl (fun h1 => ?_) (fun h1 => ?_)
    · exact mj_vret dd_Arrays_fill_20 rfl rfl
    · refine mj_aload_n (pc := 10) (i := 0) rfl dd_Arrays_fill_10 ?_
      refine mj_iload_n (pc := 11) (i := 2) rfl dd_Arrays_fill_11 ?_
      refine mj_iload_n (pc := 12) (i := 1) rfl dd_Arrays_fill_12 ?_
      refine mj_iast (pc := 13) sh_37 dd_Arrays_fill_13 (fun M2 _ => ?_)
      refine mj_iinc (pc := 14) (i := 2) (z := (1 : Int32)) rfl (by decide) (by decide) dd_Arrays_fill_14 ?_
      refine mj_L (L' := [(2, .int (x2 + (1 : Int32))), (0, .ref 37), (1, .int x1), (3, .int x3)]) [0, 1, 2, 3] rfl ?_
      refine mj_goto (pc := 17) (tgt := 5) dd_Arrays_fill_17 rfl ?_
      refine mj_L (L' := [(0, .ref 37), (1, .int x1), (2, .int (x2 + (1 : Int32))), (3, .int x3)]) [1, 2, 0, 3] rfl ?_
      exact ih x1 (x2 + (1 : Int32)) x3 M2
def F_Arrays_fill_c37 (N : Nat) (x1 : Int32) (M : mj_M) : Option (mj_M) :=
    F_Arrays_fill_c37_b5 N N x1 (0 : Int32) (448 : Int32) M
set_option maxRecDepth 20000 in
theorem T_Arrays_fill_c37 {g : mj_G} (N : Nat) : ∀ d, 1 ≤ d → ∀ (x1 : Int32) (M : mj_M), mj_Mt g (mj_qV g) d y_Arrays_fill c_Arrays_fill 4 none [.ref 37, .int x1] M (F_Arrays_fill_c37 N x1 M) := by
  intro d hd x1 M
  obtain ⟨e, rfl⟩ : ∃ e, d = e + 1 := ⟨d - 1, by omega⟩
  have he : 0 ≤ e := by omega
  refine mj_met (by decide +kernel) (Nat.le_of_ble_eq_true rfl) ?_
  unfold F_Arrays_fill_c37
  refine mj_L (L' := [(0, .ref 37), (1, .int x1)]) [0, 1] rfl ?_
  refine mj_iconst (pc := 0) (v := (0 : Int32)) (by decide) dd_Arrays_fill_0 ?_
  refine mj_istore_n (pc := 1) (by decide) dd_Arrays_fill_1 ?_
  refine mj_L (L' := [(2, .int (0 : Int32)), (0, .ref 37), (1, .int x1)]) [0, 1, 2] rfl ?_
  refine mj_aload_n (pc := 2) (i := 0) rfl dd_Arrays_fill_2 ?_
  refine mj_alen (pc := 3) (v := (448 : Int32)) sh_37 (by decide) dd_Arrays_fill_3 ?_
  refine mj_istore_n (pc := 4) (by decide) dd_Arrays_fill_4 ?_
  refine mj_L (L' := [(3, .int (448 : Int32)), (2, .int (0 : Int32)), (0, .ref 37), (1, .int x1)]) [0, 1, 2, 3] rfl ?_
  refine mj_L (L' := [(0, .ref 37), (1, .int x1), (2, .int (0 : Int32)), (3, .int (448 : Int32))]) [2, 3, 1, 0] rfl ?_
  exact T_Arrays_fill_c37_b5 (g := g) N e he N x1 (0 : Int32) (448 : Int32) M
def F_Plans_with (x0 : Int32) (x1 : Int32) (M : mj_M) : Option (Int32 × mj_M) :=
    if x1 = (9 : Int32) then
     (some (x0, M))
     else
     (some (x0 ||| ((1 : Int32) <<< (x1 &&& 31)), M))
set_option maxRecDepth 20000 in
theorem T_Plans_with {g : mj_G} : ∀ d, 1 ≤ d → ∀ (x0 : Int32) (x1 : Int32) (M : mj_M), mj_Mt g (mj_qI g) d y_Plans_with c_Plans_with 2 (some .int) [.int x0, .int x1] M (F_Plans_with x0 x1 M) := by
  intro d hd x0 x1 M
  obtain ⟨e, rfl⟩ : ∃ e, d = e + 1 := ⟨d - 1, by omega⟩
  have he : 0 ≤ e := by omega
  refine mj_met (by decide +kernel) (Nat.le_of_ble_eq_true rfl) ?_
  unfold F_Plans_with
  refine mj_L (L' := [(0, .int x0), (1, .int x1)]) [0, 1] rfl ?_
  refine mj_iload_n (pc := 0) (i := 1) rfl dd_Plans_with_0 ?_
  refine mj_bipush (pc := 1) (v := (9 : Int32)) (by decide) dd_Plans_with_1 ?_
  refine mj_icmp_ne (pc := 3) (tgt := 10) dd_Plans_with_3 rfl (fun h1 => ?_) (fun h1 => ?_)
  · refine mj_iload_n (pc := 6) (i := 0) rfl dd_Plans_with_6 ?_
    refine mj_goto (pc := 7) (tgt := 15) dd_Plans_with_7 rfl ?_
    exact mj_iret dd_Plans_with_15 rfl rfl
  · refine mj_iload_n (pc := 10) (i := 0) rfl dd_Plans_with_10 ?_
    refine mj_iconst (pc := 11) (v := (1 : Int32)) (by decide) dd_Plans_with_11 ?_
    refine mj_iload_n (pc := 12) (i := 1) rfl dd_Plans_with_12 ?_
    refine mj_ishl (pc := 13) dd_Plans_with_13 ?_
    refine mj_ior (pc := 14) dd_Plans_with_14 ?_
    exact mj_iret dd_Plans_with_15 rfl rfl
def F_Plans_nightsBy_b21 (x1 : Int32) (x2 : Int32) (x3 : Int32) (s0 : Int32) (M : mj_M) : Option (Int32 × mj_M) :=
    (F_Plans_with x2 x3 M).bind (fun q2 =>
     mj_ck (((x1 + (1 : Int32)) * (64 : Int32)) + q2.1) 448 (
     some (s0 + (q2.2 37 (((x1 + (1 : Int32)) * (64 : Int32)) + q2.1).toNatClampNeg), q2.2)))
set_option maxRecDepth 20000 in
theorem T_Plans_nightsBy_b21 {g : mj_G} (e : Nat) (he : 1 ≤ e) (x1 : Int32) (x2 : Int32) (x3 : Int32) (s0 : Int32) (M : mj_M) : mj_X g (mj_qI g) "WinterTellers$Plans" c_Plans_nightsBy 5 (some .int) e 21 [(0, .ref 33), (1, .int x1), (2, .int x2), (3, .int x3)] [.int s0] M (F_Plans_nightsBy_b21 x1 x2 x3 s0 M) := by
  unfold F_Plans_nightsBy_b21
  refine mj_istore (pc := 21) (by decide) dd_Plans_nightsBy_21 ?_
  refine mj_L (L' := [(4, .int s0), (0, .ref 33), (1, .int x1), (2, .int x2), (3, .int x3)]) [0, 1, 2, 3, 4] rfl ?_
  refine mj_iload (pc := 23) (i := 4) rfl dd_Plans_nightsBy_23 ?_
  refine mj_aload_n (pc := 25) (i := 0) rfl dd_Plans_nightsBy_25 ?_
  refine mj_getR (pc := 26) (b := 33) (k := 13) qf_Plans_21 sh_33 cl_7 rfl (by decide) (r := 37) rfl dd_Plans_nightsBy_26 ?_
  refine mj_iload_n (pc := 29) (i := 1) rfl dd_Plans_nightsBy_29 ?_
  refine mj_iconst (pc := 30) (v := (1 : Int32)) (by decide) dd_Plans_nightsBy_30 ?_
  refine mj_iadd (pc := 31) dd_Plans_nightsBy_31 ?_
  refine mj_bipush (pc := 32) (v := (64 : Int32)) (by decide) dd_Plans_nightsBy_32 ?_
  refine mj_imul (pc := 34) dd_Plans_nightsBy_34 ?_
  refine mj_iload_n (pc := 35) (i := 2) rfl dd_Plans_nightsBy_35 ?_
  refine mj_iload_n (pc := 36) (i := 3) rfl dd_Plans_nightsBy_36 ?_
  refine mj_callSI (pc := 37) (idx := 122) (As := [.int x2, .int x3]) (st := [.int ((x1 + (1 : Int32)) * (64 : Int32)), .ref 37, .int s0]) es_Plans_with ql_Plans_122 rfl (Nat.le_of_ble_eq_true rfl) (T_Plans_with (g := g) e (by omega) x2 x3 M) dd_Plans_nightsBy_37 (fun q2 hq2 => ?_)
  refine mj_iadd (pc := 40) dd_Plans_nightsBy_40 ?_
  refine mj_iald (pc := 41) sh_37 dd_Plans_nightsBy_41 ?_
  refine mj_iadd (pc := 42) dd_Plans_nightsBy_42 ?_
  exact mj_iret dd_Plans_nightsBy_43 rfl rfl
def F_Plans_nightsBy (x1 : Int32) (x2 : Int32) (x3 : Int32) (M : mj_M) : Option (Int32 × mj_M) :=
    if x3 = (9 : Int32) then
     (F_Plans_nightsBy_b21 x1 x2 x3 (0 : Int32) M)
     else
     (mj_ck ((x1 * (6 : Int32)) + x3) 36 (
     F_Plans_nightsBy_b21 x1 x2 x3 (M 34 ((x1 * (6 : Int32)) + x3).toNatClampNeg) M))
set_option maxRecDepth 20000 in
theorem T_Plans_nightsBy {g : mj_G} : ∀ d, 2 ≤ d → ∀ (x1 : Int32) (x2 : Int32) (x3 : Int32) (M : mj_M), mj_Mt g (mj_qI g) d y_Plans_nightsBy c_Plans_nightsBy 5 (some .int) [.ref 33, .int x1, .int x2, .int x3] M (F_Plans_nightsBy x1 x2 x3 M) := by
  intro d hd x1 x2 x3 M
  obtain ⟨e, rfl⟩ : ∃ e, d = e + 1 := ⟨d - 1, by omega⟩
  have he : 1 ≤ e := by omega
  refine mj_met (by decide +kernel) (Nat.le_of_ble_eq_true rfl) ?_
  unfold F_Plans_nightsBy
  refine mj_L (L' := [(0, .ref 33), (1, .int x1), (2, .int x2), (3, .int x3)]) [0, 1, 2, 3] rfl ?_
  refine mj_iload_n (pc := 0) (i := 3) rfl dd_Plans_nightsBy_0 ?_
  refine mj_bipush (pc := 1) (v := (9 : Int32)) (by decide) dd_Plans_nightsBy_1 ?_
  refine mj_icmp_ne (pc := 3) (tgt := 10) dd_Plans_nightsBy_3 rfl (fun h1 => ?_) (fun h1 => ?_)
  · refine mj_iconst (pc := 6) (v := (0 : Int32)) (by decide) dd_Plans_nightsBy_6 ?_
    refine mj_goto (pc := 7) (tgt := 21) dd_Plans_nightsBy_7 rfl ?_
    refine mj_L (L' := [(0, .ref 33), (1, .int x1), (2, .int x2), (3, .int x3)]) [0, 1, 2, 3] rfl ?_
    exact T_Plans_nightsBy_b21 (g := g) e he x1 x2 x3 (0 : Int32) M
  · refine mj_aload_n (pc := 10) (i := 0) rfl dd_Plans_nightsBy_10 ?_
    refine mj_getR (pc := 11) (b := 33) (k := 10) qf_Plans_9 sh_33 cl_7 rfl (by decide) (r := 34) rfl dd_Plans_nightsBy_11 ?_
    refine mj_iload_n (pc := 14) (i := 1) rfl dd_Plans_nightsBy_14 ?_
    refine mj_bipush (pc := 15) (v := (6 : Int32)) (by decide) dd_Plans_nightsBy_15 ?_
    refine mj_imul (pc := 17) dd_Plans_nightsBy_17 ?_
    refine mj_iload_n (pc := 18) (i := 3) rfl dd_Plans_nightsBy_18 ?_
    refine mj_iadd (pc := 19) dd_Plans_nightsBy_19 ?_
    refine mj_iald (pc := 20) sh_34 dd_Plans_nightsBy_20 ?_
    refine mj_L (L' := [(0, .ref 33), (1, .int x1), (2, .int x2), (3, .int x3)]) [0, 1, 2, 3] rfl ?_
    exact T_Plans_nightsBy_b21 (g := g) e he x1 x2 x3 (M 34 ((x1 * (6 : Int32)) + x3).toNatClampNeg) M
def F_Plans_placeFor_b9 (N : Nat) : Nat → Int32 → Int32 → Int32 → Int32 → Int32 → mj_M → Option (Int32 × mj_M)
  | 0, _, _, _, _, _, _ => none
  | n + 1, x1, x2, x3, x4, x5, M =>
    if (M 13 1) ≤ x5 then
     ((F_Plans_nightsBy x1 x2 (9 : Int32) M).bind (fun q2 =>
     if q2.1 ≤ x4 then
     (some (x3, q2.2))
     else
     (some ((9 : Int32), q2.2))))
     else
     ((F_Stand_owns x5 M).bind (fun q4 =>
     if q4.1 = (0) then
     (F_Plans_placeFor_b9 N n x1 x2 x3 x4 (x5 + (1 : Int32)) q4.2)
     else
     (if ((x2 >>> (x5 &&& 31)) &&& (1 : Int32)) = (0) then
     ((F_Plans_nightsBy x1 x2 x5 q4.2).bind (fun q7 =>
     if q7.1 ≤ x4 then
     (F_Plans_placeFor_b9 N n x1 x2 x3 x4 (x5 + (1 : Int32)) q7.2)
     else
     (F_Plans_placeFor_b9 N n x1 x2 x5 q7.1 (x5 + (1 : Int32)) q7.2)))
     else
     (F_Plans_placeFor_b9 N n x1 x2 x3 x4 (x5 + (1 : Int32)) q4.2))))
set_option maxRecDepth 20000 in
theorem T_Plans_placeFor_b9 {g : mj_G} (N : Nat) (e : Nat) (he : 2 ≤ e) : ∀ (n : Nat) (x1 : Int32) (x2 : Int32) (x3 : Int32) (x4 : Int32) (x5 : Int32) (M : mj_M), mj_X g (mj_qI g) "WinterTellers$Plans" c_Plans_placeFor 7 (some .int) e 9 [(0, .ref 33), (1, .int x1), (2, .int x2), (3, .int x3), (4, .int x4), (5, .int x5)] [] M (F_Plans_placeFor_b9 N n x1 x2 x3 x4 x5 M) := by
  intro n
  induction n with
  | zero => intro x1 x2 x3 x4 x5 M; exact mj_none
  | succ n ih =>
    intro x1 x2 x3 x4 x5 M
    rw [F_Plans_placeFor_b9]
    refine mj_iload (pc := 9) (i := 5) rfl dd_Plans_placeFor_9 ?_
    refine mj_aload_n (pc := 11) (i := 0) rfl dd_Plans_placeFor_11 ?_
    refine mj_getR (pc := 12) (b := 33) (k := 7) qf_Plans_24 sh_33 cl_7 rfl (by decide) (r := 13) rfl dd_Plans_placeFor_12 ?_
    refine mj_getI (pc := 15) (b := 13) (k := 1) qf_Plans_43 sh_13 cl_0 rfl (by decide) rfl dd_Plans_placeFor_15 ?_
    refine mj_icmp_ge (pc := 18) (tgt := 72) dd_Plans_placeFor_18 rfl (fun h1 => ?_) (fun h1 => ?_)
    · refine mj_aload_n (pc := 72) (i := 0) rfl dd_Plans_placeFor_72 ?_
      refine mj_iload_n (pc := 73) (i := 1) rfl dd_Plans_placeFor_73 ?_
      refine mj_iload_n (pc := 74) (i := 2) rfl dd_Plans_placeFor_74 ?_
      refine mj_bipush (pc := 75) (v := (9 : Int32)) (by decide) dd_Plans_placeFor_75 ?_
      refine mj_callVI (pc := 77) (idx := 118) (b := 33) (As := [.int x1, .int x2, .int (9 : Int32)]) (st := []) sh_33 cl_7 ev_Plans_nightsBy ql_Plans_118 rfl (Nat.le_of_ble_eq_true rfl) (T_Plans_nightsBy (g := g) e (by omega) x1 x2 (9 : Int32) M) dd_Plans_placeFor_77 (fun q2 hq2 => ?_)
      refine mj_iload (pc := 80) (i := 4) rfl dd_Plans_placeFor_80 ?_
      refine mj_icmp_le (pc := 82) (tgt := 90) dd_Plans_placeFor_82 rfl (fun h3 => ?_) (fun h3 => ?_)
      · refine mj_iload_n (pc := 90) (i := 3) rfl dd_Plans_placeFor_90 ?_
        exact mj_iret dd_Plans_placeFor_91 rfl rfl
      · refine mj_bipush (pc := 85) (v := (9 : Int32)) (by decide) dd_Plans_placeFor_85 ?_
        refine mj_goto (pc := 87) (tgt := 91) dd_Plans_placeFor_87 rfl ?_
        exact mj_iret dd_Plans_placeFor_91 rfl rfl
    · refine mj_aload_n (pc := 21) (i := 0) rfl dd_Plans_placeFor_21 ?_
      refine mj_getR (pc := 22) (b := 33) (k := 8) qf_Plans_28 sh_33 cl_7 rfl (by decide) (r := 20) rfl dd_Plans_placeFor_22 ?_
      refine mj_iload (pc := 25) (i := 5) rfl dd_Plans_placeFor_25 ?_
      refine mj_callVI (pc := 27) (idx := 48) (b := 20) (As := [.int x5]) (st := []) sh_20 cl_8 ev_Stand_owns ql_Plans_48 rfl (Nat.le_of_ble_eq_true rfl) (T_Stand_owns (g := g) e (by omega) x5 M) dd_Plans_placeFor_27 (fun q4 hq4 => ?_)
      refine mj_if_eq (pc := 30) (tgt := 66) dd_Plans_placeFor_30 rfl (fun h5 => ?_) (fun h5 => ?_)
      · refine mj_iinc (pc := 66) (i := 5) (z := (1 : Int32)) rfl (by decide) (by decide) dd_Plans_placeFor_66 ?_
        refine mj_L (L' := [(5, .int (x5 + (1 : Int32))), (0, .ref 33), (1, .int x1), (2, .int x2), (3, .int x3), (4, .int x4)]) [0, 1, 2, 3, 4, 5] rfl ?_
        refine mj_goto (pc := 69) (tgt := 9) dd_Plans_placeFor_69 rfl ?_
        refine mj_L (L' := [(0, .ref 33), (1, .int x1), (2, .int x2), (3, .int x3), (4, .int x4), (5, .int (x5 + (1 : Int32)))]) [1, 2, 3, 4, 5, 0] rfl ?_
        exact ih x1 x2 x3 x4 (x5 + (1 : Int32)) q4.2
      · refine mj_iload_n (pc := 33) (i := 2) rfl dd_Plans_placeFor_33 ?_
        refine mj_iload (pc := 34) (i := 5) rfl dd_Plans_placeFor_34 ?_
        refine mj_ishr (pc := 36) dd_Plans_placeFor_36 ?_
        refine mj_iconst (pc := 37) (v := (1 : Int32)) (by decide) dd_Plans_placeFor_37 ?_
        refine mj_iand (pc := 38) dd_Plans_placeFor_38 ?_
        refine mj_if_ne (pc := 39) (tgt := 66) dd_Plans_placeFor_39 rfl (fun h6 => ?_) (fun h6 => ?_)
        · refine mj_aload_n (pc := 42) (i := 0) rfl dd_Plans_placeFor_42 ?_
          refine mj_iload_n (pc := 43) (i := 1) rfl dd_Plans_placeFor_43 ?_
          refine mj_iload_n (pc := 44) (i := 2) rfl dd_Plans_placeFor_44 ?_
          refine mj_iload (pc := 45) (i := 5) rfl dd_Plans_placeFor_45 ?_
          refine mj_callVI (pc := 47) (idx := 118) (b := 33) (As := [.int x1, .int x2, .int x5]) (st := []) sh_33 cl_7 ev_Plans_nightsBy ql_Plans_118 rfl (Nat.le_of_ble_eq_true rfl) (T_Plans_nightsBy (g := g) e (by omega) x1 x2 x5 q4.2) dd_Plans_placeFor_47 (fun q7 hq7 => ?_)
          refine mj_istore (pc := 50) (by decide) dd_Plans_placeFor_50 ?_
          refine mj_L (L' := [(6, .int q7.1), (0, .ref 33), (1, .int x1), (2, .int x2), (3, .int x3), (4, .int x4), (5, .int x5)]) [0, 1, 2, 3, 4, 5, 6] rfl ?_
          refine mj_iload (pc := 52) (i := 6) rfl dd_Plans_placeFor_52 ?_
          refine mj_iload (pc := 54) (i := 4) rfl dd_Plans_placeFor_54 ?_
          refine mj_icmp_le (pc := 56) (tgt := 66) dd_Plans_placeFor_56 rfl (fun h8 => ?_) (fun h8 => ?_)
          · refine mj_iinc (pc := 66) (i := 5) (z := (1 : Int32)) rfl (by decide) (by decide) dd_Plans_placeFor_66 ?_
            refine mj_L (L' := [(5, .int (x5 + (1 : Int32))), (0, .ref 33), (1, .int x1), (2, .int x2), (3, .int x3), (4, .int x4)]) [0, 2, 3, 4, 5, 6] rfl ?_
            refine mj_goto (pc := 69) (tgt := 9) dd_Plans_placeFor_69 rfl ?_
            refine mj_L (L' := [(0, .ref 33), (1, .int x1), (2, .int x2), (3, .int x3), (4, .int x4), (5, .int (x5 + (1 : Int32)))]) [1, 2, 3, 4, 5, 0] rfl ?_
            exact ih x1 x2 x3 x4 (x5 + (1 : Int32)) q7.2
          · refine mj_iload (pc := 59) (i := 6) rfl dd_Plans_placeFor_59 ?_
            refine mj_istore (pc := 61) (by decide) dd_Plans_placeFor_61 ?_
            refine mj_L (L' := [(4, .int q7.1), (0, .ref 33), (1, .int x1), (2, .int x2), (5, .int x5)]) [0, 2, 3, 4, 6] rfl ?_
            refine mj_iload (pc := 63) (i := 5) rfl dd_Plans_placeFor_63 ?_
            refine mj_istore_n (pc := 65) (by decide) dd_Plans_placeFor_65 ?_
            refine mj_L (L' := [(3, .int x5), (4, .int q7.1), (0, .ref 33), (1, .int x1), (2, .int x2), (5, .int x5)]) [0, 1, 2, 3, 4, 5] rfl ?_
            refine mj_iinc (pc := 66) (i := 5) (z := (1 : Int32)) rfl (by decide) (by decide) dd_Plans_placeFor_66 ?_
            refine mj_L (L' := [(5, .int (x5 + (1 : Int32))), (3, .int x5), (4, .int q7.1), (0, .ref 33), (1, .int x1), (2, .int x2)]) [0, 1, 2, 3, 4, 5] rfl ?_
            refine mj_goto (pc := 69) (tgt := 9) dd_Plans_placeFor_69 rfl ?_
            refine mj_L (L' := [(0, .ref 33), (1, .int x1), (2, .int x2), (3, .int x5), (4, .int q7.1), (5, .int (x5 + (1 : Int32)))]) [3, 4, 5, 1, 2, 0] rfl ?_
            exact ih x1 x2 x5 q7.1 (x5 + (1 : Int32)) q7.2
        · refine mj_iinc (pc := 66) (i := 5) (z := (1 : Int32)) rfl (by decide) (by decide) dd_Plans_placeFor_66 ?_
          refine mj_L (L' := [(5, .int (x5 + (1 : Int32))), (0, .ref 33), (1, .int x1), (2, .int x2), (3, .int x3), (4, .int x4)]) [0, 1, 2, 3, 4, 5] rfl ?_
          refine mj_goto (pc := 69) (tgt := 9) dd_Plans_placeFor_69 rfl ?_
          refine mj_L (L' := [(0, .ref 33), (1, .int x1), (2, .int x2), (3, .int x3), (4, .int x4), (5, .int (x5 + (1 : Int32)))]) [1, 2, 3, 4, 5, 0] rfl ?_
          exact ih x1 x2 x3 x4 (x5 + (1 : Int32)) q4.2
def F_Plans_placeFor (N : Nat) (x1 : Int32) (x2 : Int32) (M : mj_M) : Option (Int32 × mj_M) :=
    F_Plans_placeFor_b9 N N x1 x2 (9 : Int32) (-1 : Int32) (0 : Int32) M
set_option maxRecDepth 20000 in
theorem T_Plans_placeFor {g : mj_G} (N : Nat) : ∀ d, 3 ≤ d → ∀ (x1 : Int32) (x2 : Int32) (M : mj_M), mj_Mt g (mj_qI g) d y_Plans_placeFor c_Plans_placeFor 7 (some .int) [.ref 33, .int x1, .int x2] M (F_Plans_placeFor N x1 x2 M) := by
  intro d hd x1 x2 M
  obtain ⟨e, rfl⟩ : ∃ e, d = e + 1 := ⟨d - 1, by omega⟩
  have he : 2 ≤ e := by omega
  refine mj_met (by decide +kernel) (Nat.le_of_ble_eq_true rfl) ?_
  unfold F_Plans_placeFor
  refine mj_L (L' := [(0, .ref 33), (1, .int x1), (2, .int x2)]) [0, 1, 2] rfl ?_
  refine mj_bipush (pc := 0) (v := (9 : Int32)) (by decide) dd_Plans_placeFor_0 ?_
  refine mj_istore_n (pc := 2) (by decide) dd_Plans_placeFor_2 ?_
  refine mj_L (L' := [(3, .int (9 : Int32)), (0, .ref 33), (1, .int x1), (2, .int x2)]) [0, 1, 2, 3] rfl ?_
  refine mj_iconst (pc := 3) (v := (-1 : Int32)) (by decide) dd_Plans_placeFor_3 ?_
  refine mj_istore (pc := 4) (by decide) dd_Plans_placeFor_4 ?_
  refine mj_L (L' := [(4, .int (-1 : Int32)), (3, .int (9 : Int32)), (0, .ref 33), (1, .int x1), (2, .int x2)]) [0, 1, 2, 3, 4] rfl ?_
  refine mj_iconst (pc := 6) (v := (0 : Int32)) (by decide) dd_Plans_placeFor_6 ?_
  refine mj_istore (pc := 7) (by decide) dd_Plans_placeFor_7 ?_
  refine mj_L (L' := [(5, .int (0 : Int32)), (4, .int (-1 : Int32)), (3, .int (9 : Int32)), (0, .ref 33), (1, .int x1), (2, .int x2)]) [0, 1, 2, 3, 4, 5] rfl ?_
  refine mj_L (L' := [(0, .ref 33), (1, .int x1), (2, .int x2), (3, .int (9 : Int32)), (4, .int (-1 : Int32)), (5, .int (0 : Int32))]) [3, 4, 5, 2, 1, 0] rfl ?_
  exact T_Plans_placeFor_b9 (g := g) N e he N x1 x2 (9 : Int32) (-1 : Int32) (0 : Int32) M
def F_Plans_findPlaces_b93 (N : Nat) : Nat → Int32 → Int32 → mj_M → Option (mj_M)
  | 0, _, _, _ => none
  | n + 1, x1, x2, M =>
    if (M 13 0) ≤ x2 then
     (some M)
     else
     ((F_Plans_placeFor N x2 x1 M).bind (fun q8 =>
     mj_lt (mj_u q8.2 33 2 (((q8.2 33 2) * (10 : Int32)) + q8.1)) (fun M9 =>
     (F_Plans_with x1 q8.1 M9).bind (fun q10 =>
     F_Plans_findPlaces_b93 N n q10.1 (x2 + (1 : Int32)) q10.2))))
set_option maxRecDepth 20000 in
theorem T_Plans_findPlaces_b93 {g : mj_G} (N : Nat) (e : Nat) (he : 6 ≤ e) : ∀ (n : Nat) (x1 : Int32) (x2 : Int32) (M : mj_M), mj_X g (mj_qV g) "WinterTellers$Plans" c_Plans_findPlaces 4 none e 93 [(0, .ref 33), (1, .int x1), (2, .int x2)] [] M (F_Plans_findPlaces_b93 N n x1 x2 M) := by
  intro n
  induction n with
  | zero => intro x1 x2 M; exact mj_none
  | succ n ih =>
    intro x1 x2 M
    rw [F_Plans_findPlaces_b93]
    refine mj_iload_n (pc := 93) (i := 2) rfl dd_Plans_findPlaces_93 ?_
    refine mj_aload_n (pc := 94) (i := 0) rfl dd_Plans_findPlaces_94 ?_
    refine mj_getR (pc := 95) (b := 33) (k := 7) qf_Plans_24 sh_33 cl_7 rfl (by decide) (r := 13) rfl dd_Plans_findPlaces_95 ?_
    refine mj_getI (pc := 98) (b := 13) (k := 0) qf_Plans_63 sh_13 cl_0 rfl (by decide) rfl dd_Plans_findPlaces_98 ?_
    refine mj_icmp_ge (pc := 101) (tgt := 136) dd_Plans_findPlaces_101 rfl (fun h7 => ?_) (fun h7 => ?_)
    · exact mj_vret dd_Plans_findPlaces_136 rfl rfl
    · refine mj_aload_n (pc := 104) (i := 0) rfl dd_Plans_findPlaces_104 ?_
      refine mj_iload_n (pc := 105) (i := 2) rfl dd_Plans_findPlaces_105 ?_
      refine mj_iload_n (pc := 106) (i := 1) rfl dd_Plans_findPlaces_106 ?_
      refine mj_callVI (pc := 107) (idx := 115) (b := 33) (As := [.int x2, .int x1]) (st := []) sh_33 cl_7 ev_Plans_placeFor ql_Plans_115 rfl (Nat.le_of_ble_eq_true rfl) (T_Plans_placeFor (g := g) N e (by omega) x2 x1 M) dd_Plans_findPlaces_107 (fun q8 hq8 => ?_)
      refine mj_istore_n (pc := 110) (by decide) dd_Plans_findPlaces_110 ?_
      refine mj_L (L' := [(3, .int q8.1), (0, .ref 33), (1, .int x1), (2, .int x2)]) [0, 1, 2, 3] rfl ?_
      refine mj_aload_n (pc := 111) (i := 0) rfl dd_Plans_findPlaces_111 ?_
      refine mj_aload_n (pc := 112) (i := 0) rfl dd_Plans_findPlaces_112 ?_
      refine mj_getI (pc := 113) (b := 33) (k := 2) qf_Plans_69 sh_33 cl_7 rfl (by decide) rfl dd_Plans_findPlaces_113 ?_
      refine mj_bipush (pc := 116) (v := (10 : Int32)) (by decide) dd_Plans_findPlaces_116 ?_
      refine mj_imul (pc := 118) dd_Plans_findPlaces_118 ?_
      refine mj_iload_n (pc := 119) (i := 3) rfl dd_Plans_findPlaces_119 ?_
      refine mj_iadd (pc := 120) dd_Plans_findPlaces_120 ?_
      refine mj_putI (pc := 121) (b := 33) (k := 2) qf_Plans_69 sh_33 cl_7 rfl (by decide) (by decide) rfl rfl rfl dd_Plans_findPlaces_121 (fun M9 _ => ?_)
      refine mj_iload_n (pc := 124) (i := 1) rfl dd_Plans_findPlaces_124 ?_
      refine mj_iload_n (pc := 125) (i := 3) rfl dd_Plans_findPlaces_125 ?_
      refine mj_callSI (pc := 126) (idx := 122) (As := [.int x1, .int q8.1]) (st := []) es_Plans_with ql_Plans_122 rfl (Nat.le_of_ble_eq_true rfl) (T_Plans_with (g := g) e (by omega) x1 q8.1 M9) dd_Plans_findPlaces_126 (fun q10 hq10 => ?_)
      refine mj_istore_n (pc := 129) (by decide) dd_Plans_findPlaces_129 ?_
      refine mj_L (L' := [(1, .int q10.1), (0, .ref 33), (2, .int x2)]) [0, 2, 3] rfl ?_
      refine mj_iinc (pc := 130) (i := 2) (z := (1 : Int32)) rfl (by decide) (by decide) dd_Plans_findPlaces_130 ?_
      refine mj_L (L' := [(2, .int (x2 + (1 : Int32))), (1, .int q10.1), (0, .ref 33)]) [0, 1, 2] rfl ?_
      refine mj_goto (pc := 133) (tgt := 93) dd_Plans_findPlaces_133 rfl ?_
      refine mj_L (L' := [(0, .ref 33), (1, .int q10.1), (2, .int (x2 + (1 : Int32)))]) [2, 1, 0] rfl ?_
      exact ih q10.1 (x2 + (1 : Int32)) q10.2
def F_Plans_findPlaces_b28 (N : Nat) (k22 : Int32 → mj_M → Option (mj_M)) : Nat → Int32 → Int32 → mj_M → Option (mj_M)
  | 0, _, _, _ => none
  | n + 1, x1, x2, M =>
    (F_Coast_allTales M).bind (fun q11 =>
     if q11.1 < x2 then
     (k22 (x1 + (-1 : Int32)) q11.2)
     else
     ((F_Plans_placeFor N x1 x2 q11.2).bind (fun q13 =>
     (F_Plans_nightsBy x1 x2 q13.1 q13.2).bind (fun q14 =>
     mj_ck ((x1 * (64 : Int32)) + x2) 448 (mj_lt (mj_u q14.2 37 ((x1 * (64 : Int32)) + x2).toNatClampNeg q14.1) (fun M15 =>
     F_Plans_findPlaces_b28 N k22 n x1 (x2 + (1 : Int32)) M15))))))
set_option maxRecDepth 20000 in
theorem T_Plans_findPlaces_b28 {g : mj_G} (N : Nat) (e : Nat) (he : 6 ≤ e) (k22 : Int32 → mj_M → Option (mj_M)) (hk22 : ∀ (x1 : Int32) (M : mj_M), mj_X g (mj_qV g) "WinterTellers$Plans" c_Plans_findPlaces 4 none e 22 [(0, .ref 33), (1, .int x1)] [] M (k22 x1 M)) : ∀ (n : Nat) (x1 : Int32) (x2 : Int32) (M : mj_M), mj_X g (mj_qV g) "WinterTellers$Plans" c_Plans_findPlaces 4 none e 28 [(0, .ref 33), (1, .int x1), (2, .int x2)] [] M (F_Plans_findPlaces_b28 N k22 n x1 x2 M) := by
  intro n
  induction n with
  | zero => intro x1 x2 M; exact mj_none
  | succ n ih =>
    intro x1 x2 M
    rw [F_Plans_findPlaces_b28]
    refine mj_iload_n (pc := 28) (i := 2) rfl dd_Plans_findPlaces_28 ?_
    refine mj_aload_n (pc := 29) (i := 0) rfl dd_Plans_findPlaces_29 ?_
    refine mj_getR (pc := 30) (b := 33) (k := 7) qf_Plans_24 sh_33 cl_7 rfl (by decide) (r := 13) rfl dd_Plans_findPlaces_30 ?_
    refine mj_callVI (pc := 33) (idx := 111) (b := 13) (As := []) (st := [.int x2]) sh_13 cl_0 ev_Coast_allTales ql_Plans_111 rfl (Nat.le_of_ble_eq_true rfl) (T_Coast_allTales (g := g) e (by omega) M) dd_Plans_findPlaces_33 (fun q11 hq11 => ?_)
    refine mj_icmp_gt (pc := 36) (tgt := 68) dd_Plans_findPlaces_36 rfl (fun h12 => ?_) (fun h12 => ?_)
    · refine mj_iinc (pc := 68) (i := 1) (z := (-1 : Int32)) rfl (by decide) (by decide) dd_Plans_findPlaces_68 ?_
      refine mj_L (L' := [(1, .int (x1 + (-1 : Int32))), (0, .ref 33)]) [0, 1] rfl ?_
      refine mj_goto (pc := 71) (tgt := 22) dd_Plans_findPlaces_71 rfl ?_
      refine mj_L (L' := [(0, .ref 33), (1, .int (x1 + (-1 : Int32)))]) [1, 0] rfl ?_
      exact hk22 (x1 + (-1 : Int32)) q11.2
    · refine mj_aload_n (pc := 39) (i := 0) rfl dd_Plans_findPlaces_39 ?_
      refine mj_getR (pc := 40) (b := 33) (k := 13) qf_Plans_21 sh_33 cl_7 rfl (by decide) (r := 37) rfl dd_Plans_findPlaces_40 ?_
      refine mj_iload_n (pc := 43) (i := 1) rfl dd_Plans_findPlaces_43 ?_
      refine mj_bipush (pc := 44) (v := (64 : Int32)) (by decide) dd_Plans_findPlaces_44 ?_
      refine mj_imul (pc := 46) dd_Plans_findPlaces_46 ?_
      refine mj_iload_n (pc := 47) (i := 2) rfl dd_Plans_findPlaces_47 ?_
      refine mj_iadd (pc := 48) dd_Plans_findPlaces_48 ?_
      refine mj_aload_n (pc := 49) (i := 0) rfl dd_Plans_findPlaces_49 ?_
      refine mj_iload_n (pc := 50) (i := 1) rfl dd_Plans_findPlaces_50 ?_
      refine mj_iload_n (pc := 51) (i := 2) rfl dd_Plans_findPlaces_51 ?_
      refine mj_aload_n (pc := 52) (i := 0) rfl dd_Plans_findPlaces_52 ?_
      refine mj_iload_n (pc := 53) (i := 1) rfl dd_Plans_findPlaces_53 ?_
      refine mj_iload_n (pc := 54) (i := 2) rfl dd_Plans_findPlaces_54 ?_
      refine mj_callVI (pc := 55) (idx := 115) (b := 33) (As := [.int x1, .int x2]) (st := [.int x2, .int x1, .ref 33, .int ((x1 * (64 : Int32)) + x2), .ref 37]) sh_33 cl_7 ev_Plans_placeFor ql_Plans_115 rfl (Nat.le_of_ble_eq_true rfl) (T_Plans_placeFor (g := g) N e (by omega) x1 x2 q11.2) dd_Plans_findPlaces_55 (fun q13 hq13 => ?_)
      refine mj_callVI (pc := 58) (idx := 118) (b := 33) (As := [.int x1, .int x2, .int q13.1]) (st := [.int ((x1 * (64 : Int32)) + x2), .ref 37]) sh_33 cl_7 ev_Plans_nightsBy ql_Plans_118 rfl (Nat.le_of_ble_eq_true rfl) (T_Plans_nightsBy (g := g) e (by omega) x1 x2 q13.1 q13.2) dd_Plans_findPlaces_58 (fun q14 hq14 => ?_)
      refine mj_iast (pc := 61) sh_37 dd_Plans_findPlaces_61 (fun M15 _ => ?_)
      refine mj_iinc (pc := 62) (i := 2) (z := (1 : Int32)) rfl (by decide) (by decide) dd_Plans_findPlaces_62 ?_
      refine mj_L (L' := [(2, .int (x2 + (1 : Int32))), (0, .ref 33), (1, .int x1)]) [0, 1, 2] rfl ?_
      refine mj_goto (pc := 65) (tgt := 28) dd_Plans_findPlaces_65 rfl ?_
      refine mj_L (L' := [(0, .ref 33), (1, .int x1), (2, .int (x2 + (1 : Int32)))]) [1, 2, 0] rfl ?_
      exact ih x1 (x2 + (1 : Int32)) M15
def F_Plans_findPlaces_b22 (N : Nat) : Nat → Int32 → mj_M → Option (mj_M)
  | 0, _, _ => none
  | n + 1, x1, M =>
    if x1 < (0) then
     (mj_lt (mj_u M 33 3 (M 37 0)) (fun M5 =>
     mj_lt (mj_u M5 33 2 (0 : Int32)) (fun M6 =>
     F_Plans_findPlaces_b93 N N (0 : Int32) (0 : Int32) M6)))
     else
     (F_Plans_findPlaces_b28 N (F_Plans_findPlaces_b22 N n) N x1 (0 : Int32) M)
set_option maxRecDepth 20000 in
theorem T_Plans_findPlaces_b22 {g : mj_G} (N : Nat) (e : Nat) (he : 6 ≤ e) : ∀ (n : Nat) (x1 : Int32) (M : mj_M), mj_X g (mj_qV g) "WinterTellers$Plans" c_Plans_findPlaces 4 none e 22 [(0, .ref 33), (1, .int x1)] [] M (F_Plans_findPlaces_b22 N n x1 M) := by
  intro n
  induction n with
  | zero => intro x1 M; exact mj_none
  | succ n ih =>
    intro x1 M
    rw [F_Plans_findPlaces_b22]
    refine mj_iload_n (pc := 22) (i := 1) rfl dd_Plans_findPlaces_22 ?_
    refine mj_if_lt (pc := 23) (tgt := 74) dd_Plans_findPlaces_23 rfl (fun h4 => ?_) (fun h4 => ?_)
    · refine mj_aload_n (pc := 74) (i := 0) rfl dd_Plans_findPlaces_74 ?_
      refine mj_aload_n (pc := 75) (i := 0) rfl dd_Plans_findPlaces_75 ?_
      refine mj_getR (pc := 76) (b := 33) (k := 13) qf_Plans_21 sh_33 cl_7 rfl (by decide) (r := 37) rfl dd_Plans_findPlaces_76 ?_
      refine mj_iconst (pc := 79) (v := (0 : Int32)) (by decide) dd_Plans_findPlaces_79 ?_
      refine mj_ialdK (pc := 80) (j := 0) sh_37 (by decide) rfl dd_Plans_findPlaces_80 ?_
      refine mj_putI (pc := 81) (b := 33) (k := 3) qf_Plans_72 sh_33 cl_7 rfl (by decide) (by decide) rfl rfl rfl dd_Plans_findPlaces_81 (fun M5 _ => ?_)
      refine mj_aload_n (pc := 84) (i := 0) rfl dd_Plans_findPlaces_84 ?_
      refine mj_iconst (pc := 85) (v := (0 : Int32)) (by decide) dd_Plans_findPlaces_85 ?_
      refine mj_putI (pc := 86) (b := 33) (k := 2) qf_Plans_69 sh_33 cl_7 rfl (by decide) (by decide) rfl rfl rfl dd_Plans_findPlaces_86 (fun M6 _ => ?_)
      refine mj_iconst (pc := 89) (v := (0 : Int32)) (by decide) dd_Plans_findPlaces_89 ?_
      refine mj_istore_n (pc := 90) (by decide) dd_Plans_findPlaces_90 ?_
      refine mj_L (L' := [(1, .int (0 : Int32)), (0, .ref 33)]) [0, 1] rfl ?_
      refine mj_iconst (pc := 91) (v := (0 : Int32)) (by decide) dd_Plans_findPlaces_91 ?_
      refine mj_istore_n (pc := 92) (by decide) dd_Plans_findPlaces_92 ?_
      refine mj_L (L' := [(2, .int (0 : Int32)), (1, .int (0 : Int32)), (0, .ref 33)]) [0, 1, 2] rfl ?_
      refine mj_L (L' := [(0, .ref 33), (1, .int (0 : Int32)), (2, .int (0 : Int32))]) [2, 1, 0] rfl ?_
      exact T_Plans_findPlaces_b93 (g := g) N e he N (0 : Int32) (0 : Int32) M6
    · refine mj_iconst (pc := 26) (v := (0 : Int32)) (by decide) dd_Plans_findPlaces_26 ?_
      refine mj_istore_n (pc := 27) (by decide) dd_Plans_findPlaces_27 ?_
      refine mj_L (L' := [(2, .int (0 : Int32)), (0, .ref 33), (1, .int x1)]) [0, 1, 2] rfl ?_
      refine mj_L (L' := [(0, .ref 33), (1, .int x1), (2, .int (0 : Int32))]) [1, 2, 0] rfl ?_
      exact T_Plans_findPlaces_b28 (g := g) N e he (F_Plans_findPlaces_b22 N n) ih N x1 (0 : Int32) M
def F_Plans_findPlaces (N : Nat) (M : mj_M) : Option (mj_M) :=
    (F_Plans_weighAll N M).bind (fun q1 =>
     (F_Arrays_fill_c37 N (0 : Int32) q1).bind (fun q2 =>
     mj_lt ((q2 13 0) - (1 : Int32)) (fun v3 =>
     F_Plans_findPlaces_b22 N N v3 q2)))
set_option maxRecDepth 20000 in
theorem T_Plans_findPlaces {g : mj_G} (N : Nat) : ∀ d, 7 ≤ d → ∀ (M : mj_M), mj_Mt g (mj_qV g) d y_Plans_findPlaces c_Plans_findPlaces 4 none [.ref 33] M (F_Plans_findPlaces N M) := by
  intro d hd M
  obtain ⟨e, rfl⟩ : ∃ e, d = e + 1 := ⟨d - 1, by omega⟩
  have he : 6 ≤ e := by omega
  refine mj_met (by decide +kernel) (Nat.le_of_ble_eq_true rfl) ?_
  unfold F_Plans_findPlaces
  refine mj_L (L' := [(0, .ref 33)]) [0] rfl ?_
  refine mj_aload_n (pc := 0) (i := 0) rfl dd_Plans_findPlaces_0 ?_
  refine mj_callVV (pc := 1) (idx := 75) (b := 33) (As := []) (st := []) sh_33 cl_7 ev_Plans_weighAll ql_Plans_75 rfl (Nat.le_of_ble_eq_true rfl) (T_Plans_weighAll (g := g) N e (by omega) M) dd_Plans_findPlaces_1 (fun q1 hq1 => ?_)
  refine mj_aload_n (pc := 4) (i := 0) rfl dd_Plans_findPlaces_4 ?_
  refine mj_getR (pc := 5) (b := 33) (k := 13) qf_Plans_21 sh_33 cl_7 rfl (by decide) (r := 37) rfl dd_Plans_findPlaces_5 ?_
  refine mj_iconst (pc := 8) (v := (0 : Int32)) (by decide) dd_Plans_findPlaces_8 ?_
  refine mj_callSV (pc := 9) (idx := 105) (As := [.ref 37, .int (0 : Int32)]) (st := []) es_Arrays_fill ql_Plans_105 rfl (Nat.le_of_ble_eq_true rfl) (T_Arrays_fill_c37 (g := g) N e (by omega) (0 : Int32) q1) dd_Plans_findPlaces_9 (fun q2 hq2 => ?_)
  refine mj_aload_n (pc := 12) (i := 0) rfl dd_Plans_findPlaces_12 ?_
  refine mj_getR (pc := 13) (b := 33) (k := 7) qf_Plans_24 sh_33 cl_7 rfl (by decide) (r := 13) rfl dd_Plans_findPlaces_13 ?_
  refine mj_getI (pc := 16) (b := 13) (k := 0) qf_Plans_63 sh_13 cl_0 rfl (by decide) rfl dd_Plans_findPlaces_16 ?_
  refine mj_iconst (pc := 19) (v := (1 : Int32)) (by decide) dd_Plans_findPlaces_19 ?_
  refine mj_isub (pc := 20) dd_Plans_findPlaces_20 ?_
  refine mj_istore_nL (pc := 21) (by decide) dd_Plans_findPlaces_21 (fun v3 _ => ?_)
  refine mj_L (L' := [(1, .int v3), (0, .ref 33)]) [0, 1] rfl ?_
  refine mj_L (L' := [(0, .ref 33), (1, .int v3)]) [1, 0] rfl ?_
  exact T_Plans_findPlaces_b22 (g := g) N e he N v3 q2
def F_W_places (N : Nat) (x1 : Int32) (M : mj_M) : Option (Int32 × mj_M) :=
    (F_Coast_isTold M).bind (fun q1 =>
     if q1.1 = (0) then
     (some ((-1 : Int32), q1.2))
     else
     (if x1 < (0) then
     (some ((-1 : Int32), q1.2))
     else
     (if x1 ≤ (1 : Int32) then
     ((F_Plans_findPlaces N q1.2).bind (fun q5 =>
     if x1 = (0) then
     (some (q5 33 2, q5))
     else
     (some (q5 33 3, q5))))
     else
     (some ((-1 : Int32), q1.2)))))
set_option maxRecDepth 20000 in
theorem T_W_places {g : mj_G} (N : Nat) : ∀ d, 8 ≤ d → ∀ (x1 : Int32) (M : mj_M), mj_Mt g (mj_qI g) d y_W_places c_W_places 2 (some .int) [.ref 0, .int x1] M (F_W_places N x1 M) := by
  intro d hd x1 M
  obtain ⟨e, rfl⟩ : ∃ e, d = e + 1 := ⟨d - 1, by omega⟩
  have he : 7 ≤ e := by omega
  refine mj_met (by decide +kernel) (Nat.le_of_ble_eq_true rfl) ?_
  unfold F_W_places
  refine mj_L (L' := [(0, .ref 0), (1, .int x1)]) [0, 1] rfl ?_
  refine mj_aload_n (pc := 0) (i := 0) rfl dd_W_places_0 ?_
  refine mj_getR (pc := 1) (b := 0) (k := 4) qf_W_42 sh_0 cl_11 rfl (by decide) (r := 13) rfl dd_W_places_1 ?_
  refine mj_callVI (pc := 4) (idx := 235) (b := 13) (As := []) (st := []) sh_13 cl_0 ev_Coast_isTold ql_W_235 rfl (Nat.le_of_ble_eq_true rfl) (T_Coast_isTold (g := g) e (by omega) M) dd_W_places_4 (fun q1 hq1 => ?_)
  refine mj_if_eq (pc := 7) (tgt := 19) dd_W_places_7 rfl (fun h2 => ?_) (fun h2 => ?_)
  · refine mj_iconst (pc := 19) (v := (-1 : Int32)) (by decide) dd_W_places_19 ?_
    exact mj_iret dd_W_places_20 rfl rfl
  · refine mj_iload_n (pc := 10) (i := 1) rfl dd_W_places_10 ?_
    refine mj_if_lt (pc := 11) (tgt := 19) dd_W_places_11 rfl (fun h3 => ?_) (fun h3 => ?_)
    · refine mj_iconst (pc := 19) (v := (-1 : Int32)) (by decide) dd_W_places_19 ?_
      exact mj_iret dd_W_places_20 rfl rfl
    · refine mj_iload_n (pc := 14) (i := 1) rfl dd_W_places_14 ?_
      refine mj_iconst (pc := 15) (v := (1 : Int32)) (by decide) dd_W_places_15 ?_
      refine mj_icmp_le (pc := 16) (tgt := 21) dd_W_places_16 rfl (fun h4 => ?_) (fun h4 => ?_)
      · refine mj_aload_n (pc := 21) (i := 0) rfl dd_W_places_21 ?_
        refine mj_getR (pc := 22) (b := 0) (k := 9) qf_W_83 sh_0 cl_11 rfl (by decide) (r := 33) rfl dd_W_places_22 ?_
        refine mj_callVV (pc := 25) (idx := 296) (b := 33) (As := []) (st := []) sh_33 cl_7 ev_Plans_findPlaces ql_W_296 rfl (Nat.le_of_ble_eq_true rfl) (T_Plans_findPlaces (g := g) N e (by omega) q1.2) dd_W_places_25 (fun q5 hq5 => ?_)
        refine mj_iload_n (pc := 28) (i := 1) rfl dd_W_places_28 ?_
        refine mj_if_ne (pc := 29) (tgt := 42) dd_W_places_29 rfl (fun h6 => ?_) (fun h6 => ?_)
        · refine mj_aload_n (pc := 32) (i := 0) rfl dd_W_places_32 ?_
          refine mj_getR (pc := 33) (b := 0) (k := 9) qf_W_83 sh_0 cl_11 rfl (by decide) (r := 33) rfl dd_W_places_33 ?_
          refine mj_getI (pc := 36) (b := 33) (k := 2) qf_W_290 sh_33 cl_7 rfl (by decide) rfl dd_W_places_36 ?_
          refine mj_goto (pc := 39) (tgt := 49) dd_W_places_39 rfl ?_
          exact mj_iret dd_W_places_49 rfl rfl
        · refine mj_aload_n (pc := 42) (i := 0) rfl dd_W_places_42 ?_
          refine mj_getR (pc := 43) (b := 0) (k := 9) qf_W_83 sh_0 cl_11 rfl (by decide) (r := 33) rfl dd_W_places_43 ?_
          refine mj_getI (pc := 46) (b := 33) (k := 3) qf_W_293 sh_33 cl_7 rfl (by decide) rfl dd_W_places_46 ?_
          exact mj_iret dd_W_places_49 rfl rfl
      · refine mj_iconst (pc := 19) (v := (-1 : Int32)) (by decide) dd_W_places_19 ?_
        exact mj_iret dd_W_places_20 rfl rfl
def F_M_tryPlaces_body_b40 (N : Nat) (K : Int32 → Int32 → Int32 → Int32 → mj_M → Option (mj_M)) : Nat → Int32 → Int32 → Int32 → Int32 → Int32 → mj_M → Option (mj_M)
  | 0, _, _, _, _, _, _ => none
  | n + 1, x1, x2, x3, x4, x5, M =>
    if (M 48 26) ≤ x5 then
     ((K (x1 + (1 : Int32)) x2 (((10 : Int32) * x3) + (9 : Int32)) x4 M).bind (fun q9 =>
     some q9))
     else
     ((F_M_has x2 x5 M).bind (fun q10 =>
     if q10.1 = (0) then
     (F_M_tryPlaces_body_b40 N K n x1 x2 x3 x4 (x5 + (1 : Int32)) q10.2)
     else
     ((F_M_nightsNow N x1 x5 q10.2).bind (fun q12 =>
     (K (x1 + (1 : Int32)) (x2 &&& (((1 : Int32) <<< (x5 &&& 31)) ^^^ (-1 : Int32))) (((10 : Int32) * x3) + x5) (x4 + q12.1) q12.2).bind (fun q13 =>
     F_M_tryPlaces_body_b40 N K n x1 x2 x3 x4 (x5 + (1 : Int32)) q13)))))
set_option maxRecDepth 20000 in
theorem T_M_tryPlaces_body_b40 {g : mj_G} (N : Nat) (K : Int32 → Int32 → Int32 → Int32 → mj_M → Option (mj_M)) (dk : Nat) (hdk : 9 ≤ dk) (hK : ∀ e, dk ≤ e → ∀ (a0 : Int32) (a1 : Int32) (a2 : Int32) (a3 : Int32) (M : mj_M), mj_Mt g (mj_qV g) e y_M_tryPlaces c_M_tryPlaces 6 none [.ref 48, .int a0, .int a1, .int a2, .int a3] M (K a0 a1 a2 a3 M)) (e : Nat) (he : dk + 0 ≤ e) : ∀ (n : Nat) (x1 : Int32) (x2 : Int32) (x3 : Int32) (x4 : Int32) (x5 : Int32) (M : mj_M), mj_X g (mj_qV g) "WinterTellersModel" c_M_tryPlaces 6 none e 40 [(0, .ref 48), (1, .int x1), (2, .int x2), (3, .int x3), (4, .int x4), (5, .int x5)] [] M (F_M_tryPlaces_body_b40 N K n x1 x2 x3 x4 x5 M) := by
  intro n
  induction n with
  | zero => intro x1 x2 x3 x4 x5 M; exact mj_none
  | succ n ih =>
    intro x1 x2 x3 x4 x5 M
    rw [F_M_tryPlaces_body_b40]
    refine mj_iload (pc := 40) (i := 5) rfl dd_M_tryPlaces_40 ?_
    refine mj_aload_n (pc := 42) (i := 0) rfl dd_M_tryPlaces_42 ?_
    refine mj_getI (pc := 43) (b := 48) (k := 26) qf_M_245 sh_48 cl_12 rfl (by decide) rfl dd_M_tryPlaces_43 ?_
    refine mj_icmp_ge (pc := 46) (tgt := 96) dd_M_tryPlaces_46 rfl (fun h8 => ?_) (fun h8 => ?_)
    · refine mj_aload_n (pc := 96) (i := 0) rfl dd_M_tryPlaces_96 ?_
      refine mj_iload_n (pc := 97) (i := 1) rfl dd_M_tryPlaces_97 ?_
      refine mj_iconst (pc := 98) (v := (1 : Int32)) (by decide) dd_M_tryPlaces_98 ?_
      refine mj_iadd (pc := 99) dd_M_tryPlaces_99 ?_
      refine mj_iload_n (pc := 100) (i := 2) rfl dd_M_tryPlaces_100 ?_
      refine mj_bipush (pc := 101) (v := (10 : Int32)) (by decide) dd_M_tryPlaces_101 ?_
      refine mj_iload_n (pc := 103) (i := 3) rfl dd_M_tryPlaces_103 ?_
      refine mj_imul (pc := 104) dd_M_tryPlaces_104 ?_
      refine mj_bipush (pc := 105) (v := (9 : Int32)) (by decide) dd_M_tryPlaces_105 ?_
      refine mj_iadd (pc := 107) dd_M_tryPlaces_107 ?_
      refine mj_iload (pc := 108) (i := 4) rfl dd_M_tryPlaces_108 ?_
      refine mj_callVV (pc := 110) (idx := 367) (b := 48) (As := [.int (x1 + (1 : Int32)), .int x2, .int (((10 : Int32) * x3) + (9 : Int32)), .int x4]) (st := []) sh_48 cl_12 ev_M_tryPlaces ql_M_367 rfl (Nat.le_of_ble_eq_true rfl) (hK e (by omega) (x1 + (1 : Int32)) x2 (((10 : Int32) * x3) + (9 : Int32)) x4 M) dd_M_tryPlaces_110 (fun q9 hq9 => ?_)
      exact mj_vret dd_M_tryPlaces_113 rfl rfl
    · refine mj_iload_n (pc := 49) (i := 2) rfl dd_M_tryPlaces_49 ?_
      refine mj_iload (pc := 50) (i := 5) rfl dd_M_tryPlaces_50 ?_
      refine mj_callSI (pc := 52) (idx := 216) (As := [.int x2, .int x5]) (st := []) es_M_has ql_M_216 rfl (Nat.le_of_ble_eq_true rfl) (T_M_has (g := g) e (by omega) x2 x5 M) dd_M_tryPlaces_52 (fun q10 hq10 => ?_)
      refine mj_if_eq (pc := 55) (tgt := 90) dd_M_tryPlaces_55 rfl (fun h11 => ?_) (fun h11 => ?_)
      · refine mj_iinc (pc := 90) (i := 5) (z := (1 : Int32)) rfl (by decide) (by decide) dd_M_tryPlaces_90 ?_
        refine mj_L (L' := [(5, .int (x5 + (1 : Int32))), (0, .ref 48), (1, .int x1), (2, .int x2), (3, .int x3), (4, .int x4)]) [0, 1, 2, 3, 4, 5] rfl ?_
        refine mj_goto (pc := 93) (tgt := 40) dd_M_tryPlaces_93 rfl ?_
        refine mj_L (L' := [(0, .ref 48), (1, .int x1), (2, .int x2), (3, .int x3), (4, .int x4), (5, .int (x5 + (1 : Int32)))]) [1, 2, 3, 4, 5, 0] rfl ?_
        exact ih x1 x2 x3 x4 (x5 + (1 : Int32)) q10.2
      · refine mj_aload_n (pc := 58) (i := 0) rfl dd_M_tryPlaces_58 ?_
        refine mj_iload_n (pc := 59) (i := 1) rfl dd_M_tryPlaces_59 ?_
        refine mj_iconst (pc := 60) (v := (1 : Int32)) (by decide) dd_M_tryPlaces_60 ?_
        refine mj_iadd (pc := 61) dd_M_tryPlaces_61 ?_
        refine mj_iload_n (pc := 62) (i := 2) rfl dd_M_tryPlaces_62 ?_
        refine mj_iconst (pc := 63) (v := (1 : Int32)) (by decide) dd_M_tryPlaces_63 ?_
        refine mj_iload (pc := 64) (i := 5) rfl dd_M_tryPlaces_64 ?_
        refine mj_ishl (pc := 66) dd_M_tryPlaces_66 ?_
        refine mj_iconst (pc := 67) (v := (-1 : Int32)) (by decide) dd_M_tryPlaces_67 ?_
        refine mj_ixor (pc := 68) dd_M_tryPlaces_68 ?_
        refine mj_iand (pc := 69) dd_M_tryPlaces_69 ?_
        refine mj_bipush (pc := 70) (v := (10 : Int32)) (by decide) dd_M_tryPlaces_70 ?_
        refine mj_iload_n (pc := 72) (i := 3) rfl dd_M_tryPlaces_72 ?_
        refine mj_imul (pc := 73) dd_M_tryPlaces_73 ?_
        refine mj_iload (pc := 74) (i := 5) rfl dd_M_tryPlaces_74 ?_
        refine mj_iadd (pc := 76) dd_M_tryPlaces_76 ?_
        refine mj_iload (pc := 77) (i := 4) rfl dd_M_tryPlaces_77 ?_
        refine mj_aload_n (pc := 79) (i := 0) rfl dd_M_tryPlaces_79 ?_
        refine mj_iload_n (pc := 80) (i := 1) rfl dd_M_tryPlaces_80 ?_
        refine mj_iload (pc := 81) (i := 5) rfl dd_M_tryPlaces_81 ?_
        refine mj_callVI (pc := 83) (idx := 284) (b := 48) (As := [.int x1, .int x5]) (st := [.int x4, .int (((10 : Int32) * x3) + x5), .int (x2 &&& (((1 : Int32) <<< (x5 &&& 31)) ^^^ (-1 : Int32))), .int (x1 + (1 : Int32)), .ref 48]) sh_48 cl_12 ev_M_nightsNow ql_M_284 rfl (Nat.le_of_ble_eq_true rfl) (T_M_nightsNow (g := g) N e (by omega) x1 x5 q10.2) dd_M_tryPlaces_83 (fun q12 hq12 => ?_)
        refine mj_iadd (pc := 86) dd_M_tryPlaces_86 ?_
        refine mj_callVV (pc := 87) (idx := 367) (b := 48) (As := [.int (x1 + (1 : Int32)), .int (x2 &&& (((1 : Int32) <<< (x5 &&& 31)) ^^^ (-1 : Int32))), .int (((10 : Int32) * x3) + x5), .int (x4 + q12.1)]) (st := []) sh_48 cl_12 ev_M_tryPlaces ql_M_367 rfl (Nat.le_of_ble_eq_true rfl) (hK e (by omega) (x1 + (1 : Int32)) (x2 &&& (((1 : Int32) <<< (x5 &&& 31)) ^^^ (-1 : Int32))) (((10 : Int32) * x3) + x5) (x4 + q12.1) q12.2) dd_M_tryPlaces_87 (fun q13 hq13 => ?_)
        refine mj_iinc (pc := 90) (i := 5) (z := (1 : Int32)) rfl (by decide) (by decide) dd_M_tryPlaces_90 ?_
        refine mj_L (L' := [(5, .int (x5 + (1 : Int32))), (0, .ref 48), (1, .int x1), (2, .int x2), (3, .int x3), (4, .int x4)]) [0, 1, 2, 3, 4, 5] rfl ?_
        refine mj_goto (pc := 93) (tgt := 40) dd_M_tryPlaces_93 rfl ?_
        refine mj_L (L' := [(0, .ref 48), (1, .int x1), (2, .int x2), (3, .int x3), (4, .int x4), (5, .int (x5 + (1 : Int32)))]) [1, 2, 3, 4, 5, 0] rfl ?_
        exact ih x1 x2 x3 x4 (x5 + (1 : Int32)) q13
def F_M_tryPlaces_body (N : Nat) (K : Int32 → Int32 → Int32 → Int32 → mj_M → Option (mj_M)) (x1 : Int32) (x2 : Int32) (x3 : Int32) (x4 : Int32) (M : mj_M) : Option (mj_M) :=
    if x1 = (M 48 25) then
     (if (M 48 35) = (-1 : Int32) then
     (mj_lt (mj_u M 48 35 x3) (fun M3 =>
     mj_lt (mj_u M3 48 36 x4) (fun M4 =>
     some M4)))
     else
     (if x4 ≤ (M 48 36) then
     (some M)
     else
     (mj_lt (mj_u M 48 35 x3) (fun M6 =>
     mj_lt (mj_u M6 48 36 x4) (fun M7 =>
     some M7)))))
     else
     (F_M_tryPlaces_body_b40 N K N x1 x2 x3 x4 (0 : Int32) M)
set_option maxRecDepth 20000 in
theorem T_M_tryPlaces_body {g : mj_G} (N : Nat) (K : Int32 → Int32 → Int32 → Int32 → mj_M → Option (mj_M)) (dk : Nat) (hdk : 9 ≤ dk) (hK : ∀ e, dk ≤ e → ∀ (a0 : Int32) (a1 : Int32) (a2 : Int32) (a3 : Int32) (M : mj_M), mj_Mt g (mj_qV g) e y_M_tryPlaces c_M_tryPlaces 6 none [.ref 48, .int a0, .int a1, .int a2, .int a3] M (K a0 a1 a2 a3 M)) : ∀ d, dk + 1 ≤ d → ∀ (x1 : Int32) (x2 : Int32) (x3 : Int32) (x4 : Int32) (M : mj_M), mj_Mt g (mj_qV g) d y_M_tryPlaces c_M_tryPlaces 6 none [.ref 48, .int x1, .int x2, .int x3, .int x4] M (F_M_tryPlaces_body N K x1 x2 x3 x4 M) := by
  intro d hd x1 x2 x3 x4 M
  obtain ⟨e, rfl⟩ : ∃ e, d = e + 1 := ⟨d - 1, by omega⟩
  have he : dk + 0 ≤ e := by omega
  refine mj_met (by decide +kernel) (Nat.le_of_ble_eq_true rfl) ?_
  unfold F_M_tryPlaces_body
  refine mj_L (L' := [(0, .ref 48), (1, .int x1), (2, .int x2), (3, .int x3), (4, .int x4)]) [0, 1, 2, 3, 4] rfl ?_
  refine mj_iload_n (pc := 0) (i := 1) rfl dd_M_tryPlaces_0 ?_
  refine mj_aload_n (pc := 1) (i := 0) rfl dd_M_tryPlaces_1 ?_
  refine mj_getI (pc := 2) (b := 48) (k := 25) qf_M_242 sh_48 cl_12 rfl (by decide) rfl dd_M_tryPlaces_2 ?_
  refine mj_icmp_ne (pc := 5) (tgt := 37) dd_M_tryPlaces_5 rfl (fun h1 => ?_) (fun h1 => ?_)
  · refine mj_aload_n (pc := 8) (i := 0) rfl dd_M_tryPlaces_8 ?_
    refine mj_getI (pc := 9) (b := 48) (k := 35) qf_M_352 sh_48 cl_12 rfl (by decide) rfl dd_M_tryPlaces_9 ?_
    refine mj_iconst (pc := 12) (v := (-1 : Int32)) (by decide) dd_M_tryPlaces_12 ?_
    refine mj_icmp_eq (pc := 13) (tgt := 25) dd_M_tryPlaces_13 rfl (fun h2 => ?_) (fun h2 => ?_)
    · refine mj_aload_n (pc := 25) (i := 0) rfl dd_M_tryPlaces_25 ?_
      refine mj_iload_n (pc := 26) (i := 3) rfl dd_M_tryPlaces_26 ?_
      refine mj_putI (pc := 27) (b := 48) (k := 35) qf_M_352 sh_48 cl_12 rfl (by decide) (by decide) rfl rfl rfl dd_M_tryPlaces_27 (fun M3 _ => ?_)
      refine mj_aload_n (pc := 30) (i := 0) rfl dd_M_tryPlaces_30 ?_
      refine mj_iload (pc := 31) (i := 4) rfl dd_M_tryPlaces_31 ?_
      refine mj_putI (pc := 33) (b := 48) (k := 36) qf_M_355 sh_48 cl_12 rfl (by decide) (by decide) rfl rfl rfl dd_M_tryPlaces_33 (fun M4 _ => ?_)
      exact mj_vret dd_M_tryPlaces_36 rfl rfl
    · refine mj_iload (pc := 16) (i := 4) rfl dd_M_tryPlaces_16 ?_
      refine mj_aload_n (pc := 18) (i := 0) rfl dd_M_tryPlaces_18 ?_
      refine mj_getI (pc := 19) (b := 48) (k := 36) qf_M_355 sh_48 cl_12 rfl (by decide) rfl dd_M_tryPlaces_19 ?_
      refine mj_icmp_le (pc := 22) (tgt := 36) dd_M_tryPlaces_22 rfl (fun h5 => ?_) (fun h5 => ?_)
      · exact mj_vret dd_M_tryPlaces_36 rfl rfl
      · refine mj_aload_n (pc := 25) (i := 0) rfl dd_M_tryPlaces_25 ?_
        refine mj_iload_n (pc := 26) (i := 3) rfl dd_M_tryPlaces_26 ?_
        refine mj_putI (pc := 27) (b := 48) (k := 35) qf_M_352 sh_48 cl_12 rfl (by decide) (by decide) rfl rfl rfl dd_M_tryPlaces_27 (fun M6 _ => ?_)
        refine mj_aload_n (pc := 30) (i := 0) rfl dd_M_tryPlaces_30 ?_
        refine mj_iload (pc := 31) (i := 4) rfl dd_M_tryPlaces_31 ?_
        refine mj_putI (pc := 33) (b := 48) (k := 36) qf_M_355 sh_48 cl_12 rfl (by decide) (by decide) rfl rfl rfl dd_M_tryPlaces_33 (fun M7 _ => ?_)
        exact mj_vret dd_M_tryPlaces_36 rfl rfl
  · refine mj_iconst (pc := 37) (v := (0 : Int32)) (by decide) dd_M_tryPlaces_37 ?_
    refine mj_istore (pc := 38) (by decide) dd_M_tryPlaces_38 ?_
    refine mj_L (L' := [(5, .int (0 : Int32)), (0, .ref 48), (1, .int x1), (2, .int x2), (3, .int x3), (4, .int x4)]) [0, 1, 2, 3, 4, 5] rfl ?_
    refine mj_L (L' := [(0, .ref 48), (1, .int x1), (2, .int x2), (3, .int x3), (4, .int x4), (5, .int (0 : Int32))]) [1, 2, 3, 4, 5, 0] rfl ?_
    exact T_M_tryPlaces_body_b40 (g := g) N K dk hdk hK e he N x1 x2 x3 x4 (0 : Int32) M
def F_M_tryPlaces (N : Nat) : Nat → Int32 → Int32 → Int32 → Int32 → mj_M → Option (mj_M)
  | 0, _, _, _, _, _ => none
  | n + 1, x1, x2, x3, x4, M => F_M_tryPlaces_body N (F_M_tryPlaces N n) x1 x2 x3 x4 M
theorem T_M_tryPlaces {g : mj_G} (N : Nat) : ∀ (n d : Nat), 9 + 2 * n ≤ d → ∀ (x1 : Int32) (x2 : Int32) (x3 : Int32) (x4 : Int32) (M : mj_M), mj_Mt g (mj_qV g) d y_M_tryPlaces c_M_tryPlaces 6 none [.ref 48, .int x1, .int x2, .int x3, .int x4] M (F_M_tryPlaces N n x1 x2 x3 x4 M) := by
  intro n
  induction n with
  | zero => intro d _ x1 x2 x3 x4 M q hq; cases hq
  | succ n ih =>
    intro d hd x1 x2 x3 x4 M
    exact T_M_tryPlaces_body (g := g) N (F_M_tryPlaces N n) (9 + 2 * n) (by omega) (fun e he => ih e he) d (by omega) x1 x2 x3 x4 M
