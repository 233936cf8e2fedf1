/-! ===== functions and their proofs ===== -/
def F_Coast_knows (x1 : Int32) (x2 : Int32) (M : mj_M) : Option (Int32 × mj_M) :=
    mj_ck x1 6 (
     if (((M 14 x1.toNatClampNeg) >>> (x2 &&& 31)) &&& (1 : Int32)) = (0) then
     (some ((0 : Int32), M))
     else
     (some ((1 : Int32), M)))
set_option maxRecDepth 20000 in
theorem T_Coast_knows {g : mj_G} : ∀ d, 1 ≤ d → ∀ (x1 : Int32) (x2 : Int32) (M : mj_M), mj_Mt g (mj_qI g) d y_Coast_knows c_Coast_knows 3 (some .boolean) [.ref 13, .int x1, .int x2] M (F_Coast_knows x1 x2 M) := by
  intro d hd x1 x2 M
  obtain ⟨e, rfl⟩ : ∃ e, d = e + 1 := ⟨d - 1, by omega⟩
  have he : 0 ≤ e := by omega
  refine mj_met (by decide +kernel) (Nat.le_of_ble_eq_true rfl) ?_
  unfold F_Coast_knows
  refine mj_L (L' := [(0, .ref 13), (1, .int x1), (2, .int x2)]) [0, 1, 2] rfl ?_
  refine mj_aload_n (pc := 0) (i := 0) rfl dd_Coast_knows_0 ?_
  refine mj_getR (pc := 1) (b := 13) (k := 6) qf_Coast_9 sh_13 cl_0 rfl (by decide) (r := 14) rfl dd_Coast_knows_1 ?_
  refine mj_iload_n (pc := 4) (i := 1) rfl dd_Coast_knows_4 ?_
  refine mj_iald (pc := 5) sh_14 dd_Coast_knows_5 ?_
  refine mj_iload_n (pc := 6) (i := 2) rfl dd_Coast_knows_6 ?_
  refine mj_ishr (pc := 7) dd_Coast_knows_7 ?_
  refine mj_iconst (pc := 8) (v := (1 : Int32)) (by decide) dd_Coast_knows_8 ?_
  refine mj_iand (pc := 9) dd_Coast_knows_9 ?_
  refine mj_if_eq (pc := 10) (tgt := 17) dd_Coast_knows_10 rfl (fun h1 => ?_) (fun h1 => ?_)
  · refine mj_iconst (pc := 17) (v := (0 : Int32)) (by decide) dd_Coast_knows_17 ?_
    exact mj_zret (by decide) dd_Coast_knows_18 rfl rfl
  · refine mj_iconst (pc := 13) (v := (1 : Int32)) (by decide) dd_Coast_knows_13 ?_
    refine mj_goto (pc := 14) (tgt := 18) dd_Coast_knows_14 rfl ?_
    exact mj_zret (by decide) dd_Coast_knows_18 rfl rfl
def F_Stand_begin_c13_b84 (N : Nat) (k74 : Int32 → mj_M → Option (mj_M)) : Nat → Int32 → Int32 → mj_M → Option (mj_M)
  | 0, _, _, _ => none
  | n + 1, x2, x3, M =>
    if (M 13 1) ≤ x3 then
     (k74 (x2 + (1 : Int32)) M)
     else
     ((F_Coast_knows x2 x3 M).bind (fun q13 =>
     if q13.1 = (0) then
     (mj_ck ((x2 * (6 : Int32)) + x3) 36 (mj_lt (mj_u q13.2 22 ((x2 * (6 : Int32)) + x3).toNatClampNeg (0 : Int32)) (fun M15 =>
     F_Stand_begin_c13_b84 N k74 n x2 (x3 + (1 : Int32)) M15)))
     else
     (mj_ck ((x2 * (6 : Int32)) + x3) 36 (mj_lt (mj_u q13.2 22 ((x2 * (6 : Int32)) + x3).toNatClampNeg (1 : Int32)) (fun M16 =>
     F_Stand_begin_c13_b84 N k74 n x2 (x3 + (1 : Int32)) M16)))))
set_option maxRecDepth 20000 in
theorem T_Stand_begin_c13_b84 {g : mj_G} (N : Nat) (e : Nat) (he : 1 ≤ e) (k74 : Int32 → mj_M → Option (mj_M)) (hk74 : ∀ (x2 : Int32) (M : mj_M), mj_X g (mj_qV g) "WinterTellers$Stand" c_Stand_begin 4 none e 74 [(0, .ref 20), (1, .ref 13), (2, .int x2)] [] M (k74 x2 M)) : ∀ (n : Nat) (x2 : Int32) (x3 : Int32) (M : mj_M), mj_X g (mj_qV g) "WinterTellers$Stand" c_Stand_begin 4 none e 84 [(0, .ref 20), (1, .ref 13), (2, .int x2), (3, .int x3)] [] M (F_Stand_begin_c13_b84 N k74 n x2 x3 M) := by
  intro n
  induction n with
  | zero => intro x2 x3 M; exact mj_none
  | succ n ih =>
    intro x2 x3 M
    rw [F_Stand_begin_c13_b84]
    refine mj_iload_n (pc := 84) (i := 3) rfl dd_Stand_begin_84 ?_
    refine mj_aload_n (pc := 85) (i := 1) rfl dd_Stand_begin_85 ?_
    refine mj_getI (pc := 86) (b := 13) (k := 1) qf_Stand_70 sh_13 cl_0 rfl (by decide) rfl dd_Stand_begin_86 ?_
    refine mj_icmp_ge (pc := 89) (tgt := 123) dd_Stand_begin_89 rfl (fun h12 => ?_) (fun h12 => ?_)
    · refine mj_iinc (pc := 123) (i := 2) (z := (1 : Int32)) rfl (by decide) (by decide) dd_Stand_begin_123 ?_
      refine mj_L (L' := [(2, .int (x2 + (1 : Int32))), (0, .ref 20), (1, .ref 13)]) [0, 1, 2] rfl ?_
      refine mj_goto (pc := 126) (tgt := 74) dd_Stand_begin_126 rfl ?_
      refine mj_L (L' := [(0, .ref 20), (1, .ref 13), (2, .int (x2 + (1 : Int32)))]) [1, 2, 0] rfl ?_
      exact hk74 (x2 + (1 : Int32)) M
    · refine mj_aload_n (pc := 92) (i := 0) rfl dd_Stand_begin_92 ?_
      refine mj_getR (pc := 93) (b := 20) (k := 8) qf_Stand_17 sh_20 cl_8 rfl (by decide) (r := 22) rfl dd_Stand_begin_93 ?_
      refine mj_iload_n (pc := 96) (i := 2) rfl dd_Stand_begin_96 ?_
      refine mj_bipush (pc := 97) (v := (6 : Int32)) (by decide) dd_Stand_begin_97 ?_
      refine mj_imul (pc := 99) dd_Stand_begin_99 ?_
      refine mj_iload_n (pc := 100) (i := 3) rfl dd_Stand_begin_100 ?_
      refine mj_iadd (pc := 101) dd_Stand_begin_101 ?_
      refine mj_aload_n (pc := 102) (i := 1) rfl dd_Stand_begin_102 ?_
      refine mj_iload_n (pc := 103) (i := 2) rfl dd_Stand_begin_103 ?_
      refine mj_iload_n (pc := 104) (i := 3) rfl dd_Stand_begin_104 ?_
      refine mj_callVI (pc := 105) (idx := 73) (b := 13) (As := [.int x2, .int x3]) (st := [.int ((x2 * (6 : Int32)) + x3), .ref 22]) sh_13 cl_0 ev_Coast_knows ql_Stand_73 rfl (Nat.le_of_ble_eq_true rfl) (T_Coast_knows (g := g) e (by omega) x2 x3 M) dd_Stand_begin_105 (fun q13 hq13 => ?_)
      refine mj_if_eq (pc := 108) (tgt := 115) dd_Stand_begin_108 rfl (fun h14 => ?_) (fun h14 => ?_)
      · refine mj_iconst (pc := 115) (v := (0 : Int32)) (by decide) dd_Stand_begin_115 ?_
        refine mj_iast (pc := 116) sh_22 dd_Stand_begin_116 (fun M15 _ => ?_)
        refine mj_iinc (pc := 117) (i := 3) (z := (1 : Int32)) rfl (by decide) (by decide) dd_Stand_begin_117 ?_
        refine mj_L (L' := [(3, .int (x3 + (1 : Int32))), (0, .ref 20), (1, .ref 13), (2, .int x2)]) [0, 1, 2, 3] rfl ?_
        refine mj_goto (pc := 120) (tgt := 84) dd_Stand_begin_120 rfl ?_
        refine mj_L (L' := [(0, .ref 20), (1, .ref 13), (2, .int x2), (3, .int (x3 + (1 : Int32)))]) [1, 2, 3, 0] rfl ?_
        exact ih x2 (x3 + (1 : Int32)) M15
      · refine mj_iconst (pc := 111) (v := (1 : Int32)) (by decide) dd_Stand_begin_111 ?_
        refine mj_goto (pc := 112) (tgt := 116) dd_Stand_begin_112 rfl ?_
        refine mj_iast (pc := 116) sh_22 dd_Stand_begin_116 (fun M16 _ => ?_)
        refine mj_iinc (pc := 117) (i := 3) (z := (1 : Int32)) rfl (by decide) (by decide) dd_Stand_begin_117 ?_
        refine mj_L (L' := [(3, .int (x3 + (1 : Int32))), (0, .ref 20), (1, .ref 13), (2, .int x2)]) [0, 1, 2, 3] rfl ?_
        refine mj_goto (pc := 120) (tgt := 84) dd_Stand_begin_120 rfl ?_
        refine mj_L (L' := [(0, .ref 20), (1, .ref 13), (2, .int x2), (3, .int (x3 + (1 : Int32)))]) [1, 2, 3, 0] rfl ?_
        exact ih x2 (x3 + (1 : Int32)) M16
def F_Stand_begin_c13_b74 (N : Nat) : Nat → Int32 → mj_M → Option (mj_M)
  | 0, _, _ => none
  | n + 1, x2, M =>
    if (M 13 0) ≤ x2 then
     (some M)
     else
     (F_Stand_begin_c13_b84 N (F_Stand_begin_c13_b74 N n) N x2 (0 : Int32) M)
set_option maxRecDepth 20000 in
theorem T_Stand_begin_c13_b74 {g : mj_G} (N : Nat) (e : Nat) (he : 1 ≤ e) : ∀ (n : Nat) (x2 : Int32) (M : mj_M), mj_X g (mj_qV g) "WinterTellers$Stand" c_Stand_begin 4 none e 74 [(0, .ref 20), (1, .ref 13), (2, .int x2)] [] M (F_Stand_begin_c13_b74 N n x2 M) := by
  intro n
  induction n with
  | zero => intro x2 M; exact mj_none
  | succ n ih =>
    intro x2 M
    rw [F_Stand_begin_c13_b74]
    refine mj_iload_n (pc := 74) (i := 2) rfl dd_Stand_begin_74 ?_
    refine mj_aload_n (pc := 75) (i := 1) rfl dd_Stand_begin_75 ?_
    refine mj_getI (pc := 76) (b := 13) (k := 0) qf_Stand_67 sh_13 cl_0 rfl (by decide) rfl dd_Stand_begin_76 ?_
    refine mj_icmp_ge (pc := 79) (tgt := 129) dd_Stand_begin_79 rfl (fun h11 => ?_) (fun h11 => ?_)
    · exact mj_vret dd_Stand_begin_129 rfl rfl
    · refine mj_iconst (pc := 82) (v := (0 : Int32)) (by decide) dd_Stand_begin_82 ?_
      refine mj_istore_n (pc := 83) (by decide) dd_Stand_begin_83 ?_
      refine mj_L (L' := [(3, .int (0 : Int32)), (0, .ref 20), (1, .ref 13), (2, .int x2)]) [0, 1, 2, 3] rfl ?_
      refine mj_L (L' := [(0, .ref 20), (1, .ref 13), (2, .int x2), (3, .int (0 : Int32))]) [1, 2, 3, 0] rfl ?_
      exact T_Stand_begin_c13_b84 (g := g) N e he (F_Stand_begin_c13_b74 N n) ih N x2 (0 : Int32) M
def F_Stand_begin_c13 (N : Nat) (M : mj_M) : Option (mj_M) :=
    mj_lt (mj_u M 20 0 (M 13 4)) (fun M1 =>
     (F_Coast_allTales M1).bind (fun q2 =>
     mj_lt (mj_u q2.2 20 1 ((M1 13 3) &&& q2.1)) (fun M3 =>
     mj_lt (mj_u M3 20 2 (M3 13 2)) (fun M4 =>
     mj_lt (mj_u M4 20 3 (0 : Int32)) (fun M5 =>
     mj_lt (mj_u M5 20 4 (0 : Int32)) (fun M6 =>
     mj_lt (mj_u M6 20 5 (0 : Int32)) (fun M7 =>
     mj_lt (mj_u M7 20 6 (0 : Int32)) (fun M8 =>
     mj_ac (0 : Int32) (0 : Int32) (6 : Int32) 6 6 (mj_lt (mj_a M8 21 (va_cpy (M8 18) (M8 21) (0 : Int32).toNatClampNeg (0 : Int32).toNatClampNeg (6 : Int32).toNatClampNeg)) (fun M9 =>
     (F_Arrays_fill_c22 N (0 : Int32) M9).bind (fun q10 =>
     F_Stand_begin_c13_b74 N N (0 : Int32) q10)))))))))))
set_option maxRecDepth 20000 in
theorem T_Stand_begin_c13 {g : mj_G} (N : Nat) : ∀ d, 2 ≤ d → ∀ (M : mj_M), mj_Mt g (mj_qV g) d y_Stand_begin c_Stand_begin 4 none [.ref 20, .ref 13] M (F_Stand_begin_c13 N M) := by
  intro d hd M
  obtain ⟨e, rfl⟩ : ∃ e, d = e + 1 := ⟨d - 1, by omega⟩
  have he : 1 ≤ e := by omega
  refine mj_met (by decide +kernel) (Nat.le_of_ble_eq_true rfl) ?_
  unfold F_Stand_begin_c13
  refine mj_L (L' := [(0, .ref 20), (1, .ref 13)]) [0, 1] rfl ?_
  refine mj_aload_n (pc := 0) (i := 0) rfl dd_Stand_begin_0 ?_
  refine mj_aload_n (pc := 1) (i := 1) rfl dd_Stand_begin_1 ?_
  refine mj_getI (pc := 2) (b := 13) (k := 4) qf_Stand_23 sh_13 cl_0 rfl (by decide) rfl dd_Stand_begin_2 ?_
  refine mj_putI (pc := 5) (b := 20) (k := 0) qf_Stand_29 sh_20 cl_8 rfl (by decide) (by decide) rfl rfl rfl dd_Stand_begin_5 (fun M1 _ => ?_)
  refine mj_aload_n (pc := 8) (i := 0) rfl dd_Stand_begin_8 ?_
  refine mj_aload_n (pc := 9) (i := 1) rfl dd_Stand_begin_9 ?_
  refine mj_getI (pc := 10) (b := 13) (k := 3) qf_Stand_30 sh_13 cl_0 rfl (by decide) rfl dd_Stand_begin_10 ?_
  refine mj_aload_n (pc := 13) (i := 1) rfl dd_Stand_begin_13 ?_
  refine mj_callVI (pc := 14) (idx := 33) (b := 13) (As := []) (st := [.int (M1 13 3), .ref 20]) sh_13 cl_0 ev_Coast_allTales ql_Stand_33 rfl (Nat.le_of_ble_eq_true rfl) (T_Coast_allTales (g := g) e (by omega) M1) dd_Stand_begin_14 (fun q2 hq2 => ?_)
  refine mj_iand (pc := 17) dd_Stand_begin_17 ?_
  refine mj_putI (pc := 18) (b := 20) (k := 1) qf_Stand_37 sh_20 cl_8 rfl (by decide) (by decide) rfl rfl rfl dd_Stand_begin_18 (fun M3 _ => ?_)
  refine mj_aload_n (pc := 21) (i := 0) rfl dd_Stand_begin_21 ?_
  refine mj_aload_n (pc := 22) (i := 1) rfl dd_Stand_begin_22 ?_
  refine mj_getI (pc := 23) (b := 13) (k := 2) qf_Stand_38 sh_13 cl_0 rfl (by decide) rfl dd_Stand_begin_23 ?_
  refine mj_putI (pc := 26) (b := 20) (k := 2) qf_Stand_41 sh_20 cl_8 rfl (by decide) (by decide) rfl rfl rfl dd_Stand_begin_26 (fun M4 _ => ?_)
  refine mj_aload_n (pc := 29) (i := 0) rfl dd_Stand_begin_29 ?_
  refine mj_iconst (pc := 30) (v := (0 : Int32)) (by decide) dd_Stand_begin_30 ?_
  refine mj_putI (pc := 31) (b := 20) (k := 3) qf_Stand_42 sh_20 cl_8 rfl (by decide) (by decide) rfl rfl rfl dd_Stand_begin_31 (fun M5 _ => ?_)
  refine mj_aload_n (pc := 34) (i := 0) rfl dd_Stand_begin_34 ?_
  refine mj_iconst (pc := 35) (v := (0 : Int32)) (by decide) dd_Stand_begin_35 ?_
  refine mj_putI (pc := 36) (b := 20) (k := 4) qf_Stand_45 sh_20 cl_8 rfl (by decide) (by decide) rfl rfl rfl dd_Stand_begin_36 (fun M6 _ => ?_)
  refine mj_aload_n (pc := 39) (i := 0) rfl dd_Stand_begin_39 ?_
  refine mj_iconst (pc := 40) (v := (0 : Int32)) (by decide) dd_Stand_begin_40 ?_
  refine mj_putI (pc := 41) (b := 20) (k := 5) qf_Stand_48 sh_20 cl_8 rfl (by decide) (by decide) rfl rfl rfl dd_Stand_begin_41 (fun M7 _ => ?_)
  refine mj_aload_n (pc := 44) (i := 0) rfl dd_Stand_begin_44 ?_
  refine mj_iconst (pc := 45) (v := (0 : Int32)) (by decide) dd_Stand_begin_45 ?_
  refine mj_putI (pc := 46) (b := 20) (k := 6) qf_Stand_51 sh_20 cl_8 rfl (by decide) (by decide) rfl rfl rfl dd_Stand_begin_46 (fun M8 _ => ?_)
  refine mj_aload_n (pc := 49) (i := 1) rfl dd_Stand_begin_49 ?_
  refine mj_getR (pc := 50) (b := 13) (k := 10) qf_Stand_54 sh_13 cl_0 rfl (by decide) (r := 18) rfl dd_Stand_begin_50 ?_
  refine mj_iconst (pc := 53) (v := (0 : Int32)) (by decide) dd_Stand_begin_53 ?_
  refine mj_aload_n (pc := 54) (i := 0) rfl dd_Stand_begin_54 ?_
  refine mj_getR (pc := 55) (b := 20) (k := 7) qf_Stand_13 sh_20 cl_8 rfl (by decide) (r := 21) rfl dd_Stand_begin_55 ?_
  refine mj_iconst (pc := 58) (v := (0 : Int32)) (by decide) dd_Stand_begin_58 ?_
  refine mj_bipush (pc := 59) (v := (6 : Int32)) (by decide) dd_Stand_begin_59 ?_
  refine mj_copy (pc := 61) (idx := 55) sh_18 sh_21 qm_Stand_55 (Nat.le_of_ble_eq_true rfl) dd_Stand_begin_61 (fun M9 _ => ?_)
  refine mj_aload_n (pc := 64) (i := 0) rfl dd_Stand_begin_64 ?_
  refine mj_getR (pc := 65) (b := 20) (k := 8) qf_Stand_17 sh_20 cl_8 rfl (by decide) (r := 22) rfl dd_Stand_begin_65 ?_
  refine mj_iconst (pc := 68) (v := (0 : Int32)) (by decide) dd_Stand_begin_68 ?_
  refine mj_callSV (pc := 69) (idx := 61) (As := [.ref 22, .int (0 : Int32)]) (st := []) es_Arrays_fill ql_Stand_61 rfl (Nat.le_of_ble_eq_true rfl) (T_Arrays_fill_c22 (g := g) N e (by omega) (0 : Int32) M9) dd_Stand_begin_69 (fun q10 hq10 => ?_)
  refine mj_iconst (pc := 72) (v := (0 : Int32)) (by decide) dd_Stand_begin_72 ?_
  refine mj_istore_n (pc := 73) (by decide) dd_Stand_begin_73 ?_
  refine mj_L (L' := [(2, .int (0 : Int32)), (0, .ref 20), (1, .ref 13)]) [0, 1, 2] rfl ?_
  refine mj_L (L' := [(0, .ref 20), (1, .ref 13), (2, .int (0 : Int32))]) [1, 2, 0] rfl ?_
  exact T_Stand_begin_c13_b74 (g := g) N e he N (0 : Int32) q10
def F_Past_forget (M : mj_M) : Option (mj_M) :=
    mj_lt (mj_u M 24 0 (0 : Int32)) (fun M1 =>
     mj_lt (mj_u M1 24 1 (0 : Int32)) (fun M2 =>
     some M2))
set_option maxRecDepth 20000 in
theorem T_Past_forget {g : mj_G} : ∀ d, 1 ≤ d → ∀ (M : mj_M), mj_Mt g (mj_qV g) d y_Past_forget c_Past_forget 1 none [.ref 24] M (F_Past_forget M) := by
  intro d hd M
  obtain ⟨e, rfl⟩ : ∃ e, d = e + 1 := ⟨d - 1, by omega⟩
  have he : 0 ≤ e := by omega
  refine mj_met (by decide +kernel) (Nat.le_of_ble_eq_true rfl) ?_
  unfold F_Past_forget
  refine mj_L (L' := [(0, .ref 24)]) [0] rfl ?_
  refine mj_aload_n (pc := 0) (i := 0) rfl dd_Past_forget_0 ?_
  refine mj_iconst (pc := 1) (v := (0 : Int32)) (by decide) dd_Past_forget_1 ?_
  refine mj_putI (pc := 2) (b := 24) (k := 0) qf_Past_21 sh_24 cl_6 rfl (by decide) (by decide) rfl rfl rfl dd_Past_forget_2 (fun M1 _ => ?_)
  refine mj_aload_n (pc := 5) (i := 0) rfl dd_Past_forget_5 ?_
  refine mj_iconst (pc := 6) (v := (0 : Int32)) (by decide) dd_Past_forget_6 ?_
  refine mj_putZ (pc := 7) (b := 24) (k := 1) qf_Past_25 sh_24 cl_6 rfl (by decide) (by decide) (by decide) rfl rfl rfl dd_Past_forget_7 (fun M2 _ => ?_)
  exact mj_vret dd_Past_forget_10 rfl rfl
def F_W_takeCoast (N : Nat) (M : mj_M) : Option (mj_M) :=
    mj_lt (mj_u M 2 1 (0 : Int32)) (fun M1 =>
     (F_Coast_become_c41 M1).bind (fun q2 =>
     (F_Stand_begin_c13 N q2).bind (fun q3 =>
     (F_Past_forget q3).bind (fun q4 =>
     mj_lt (mj_u q4 29 0 (0 : Int32)) (fun M5 =>
     some M5)))))
set_option maxRecDepth 20000 in
theorem T_W_takeCoast {g : mj_G} (N : Nat) : ∀ d, 3 ≤ d → ∀ (M : mj_M), mj_Mt g (mj_qV g) d y_W_takeCoast c_W_takeCoast 1 none [.ref 0] M (F_W_takeCoast N M) := by
  intro d hd M
  obtain ⟨e, rfl⟩ : ∃ e, d = e + 1 := ⟨d - 1, by omega⟩
  have he : 2 ≤ e := by omega
  refine mj_met (by decide +kernel) (Nat.le_of_ble_eq_true rfl) ?_
  unfold F_W_takeCoast
  refine mj_L (L' := [(0, .ref 0)]) [0] rfl ?_
  refine mj_aload_n (pc := 0) (i := 0) rfl dd_W_takeCoast_0 ?_
  refine mj_getR (pc := 1) (b := 0) (k := 0) qf_W_12 sh_0 cl_11 rfl (by decide) (r := 2) rfl dd_W_takeCoast_1 ?_
  refine mj_iconst (pc := 4) (v := (0 : Int32)) (by decide) dd_W_takeCoast_4 ?_
  refine mj_putI (pc := 5) (b := 2) (k := 1) qf_W_106 sh_2 cl_10 rfl (by decide) (by decide) rfl rfl rfl dd_W_takeCoast_5 (fun M1 _ => ?_)
  refine mj_aload_n (pc := 8) (i := 0) rfl dd_W_takeCoast_8 ?_
  refine mj_getR (pc := 9) (b := 0) (k := 4) qf_W_42 sh_0 cl_11 rfl (by decide) (r := 13) rfl dd_W_takeCoast_9 ?_
  refine mj_aload_n (pc := 12) (i := 0) rfl dd_W_takeCoast_12 ?_
  refine mj_getR (pc := 13) (b := 0) (k := 1) qf_W_21 sh_0 cl_11 rfl (by decide) (r := 4) rfl dd_W_takeCoast_13 ?_
  refine mj_getR (pc := 16) (b := 4) (k := 0) qf_W_134 sh_4 cl_1 rfl (by decide) (r := 41) rfl dd_W_takeCoast_16 ?_
  refine mj_callVV (pc := 19) (idx := 137) (b := 13) (As := [.ref 41]) (st := []) sh_13 cl_0 ev_Coast_become ql_W_137 rfl (Nat.le_of_ble_eq_true rfl) (T_Coast_become_c41 (g := g) e (by omega) M1) dd_W_takeCoast_19 (fun q2 hq2 => ?_)
  refine mj_aload_n (pc := 22) (i := 0) rfl dd_W_takeCoast_22 ?_
  refine mj_getR (pc := 23) (b := 0) (k := 5) qf_W_49 sh_0 cl_11 rfl (by decide) (r := 20) rfl dd_W_takeCoast_23 ?_
  refine mj_aload_n (pc := 26) (i := 0) rfl dd_W_takeCoast_26 ?_
  refine mj_getR (pc := 27) (b := 0) (k := 4) qf_W_42 sh_0 cl_11 rfl (by decide) (r := 13) rfl dd_W_takeCoast_27 ?_
  refine mj_callVV (pc := 30) (idx := 141) (b := 20) (As := [.ref 13]) (st := []) sh_20 cl_8 ev_Stand_begin ql_W_141 rfl (Nat.le_of_ble_eq_true rfl) (T_Stand_begin_c13 (g := g) N e (by omega) q2) dd_W_takeCoast_30 (fun q3 hq3 => ?_)
  refine mj_aload_n (pc := 33) (i := 0) rfl dd_W_takeCoast_33 ?_
  refine mj_getR (pc := 34) (b := 0) (k := 6) qf_W_56 sh_0 cl_11 rfl (by decide) (r := 24) rfl dd_W_takeCoast_34 ?_
  refine mj_callVV (pc := 37) (idx := 144) (b := 24) (As := []) (st := []) sh_24 cl_6 ev_Past_forget ql_W_144 rfl (Nat.le_of_ble_eq_true rfl) (T_Past_forget (g := g) e (by omega) q3) dd_W_takeCoast_37 (fun q4 hq4 => ?_)
  refine mj_aload_n (pc := 40) (i := 0) rfl dd_W_takeCoast_40 ?_
  refine mj_getR (pc := 41) (b := 0) (k := 8) qf_W_74 sh_0 cl_11 rfl (by decide) (r := 29) rfl dd_W_takeCoast_41 ?_
  refine mj_iconst (pc := 44) (v := (0 : Int32)) (by decide) dd_W_takeCoast_44 ?_
  refine mj_putI (pc := 45) (b := 29) (k := 0) qf_W_147 sh_29 cl_3 rfl (by decide) (by decide) rfl rfl rfl dd_W_takeCoast_45 (fun M5 _ => ?_)
  exact mj_vret dd_W_takeCoast_48 rfl rfl
def F_Laws_add_c7 (x2 : Int32) (M : mj_M) : Option (mj_M) :=
    if (4 : Int32) ≤ (M 8 0) then
     (some M)
     else
     (if (240 : Int32) < x2 then
     (some M)
     else
     (if (240 : Int32) < x2 then
     (some M)
     else
     (mj_ac (0 : Int32) ((M 8 0) * (240 : Int32)) x2 240 960 (mj_lt (mj_a M 10 (va_cpy (M 7) (M 10) (0 : Int32).toNatClampNeg ((M 8 0) * (240 : Int32)).toNatClampNeg x2.toNatClampNeg)) (fun M4 =>
     mj_ck (M4 8 0) 4 (mj_lt (mj_u M4 11 (M4 8 0).toNatClampNeg x2) (fun M5 =>
     mj_lt (mj_u M5 8 0 ((M5 8 0) + (1 : Int32))) (fun M6 =>
     some M6))))))))
set_option maxRecDepth 20000 in
theorem T_Laws_add_c7 {g : mj_G} : ∀ d, 1 ≤ d → ∀ (x2 : Int32) (M : mj_M), mj_Mt g (mj_qV g) d y_Laws_add c_Laws_add 3 none [.ref 8, .ref 7, .int x2] M (F_Laws_add_c7 x2 M) := by
  intro d hd x2 M
  obtain ⟨e, rfl⟩ : ∃ e, d = e + 1 := ⟨d - 1, by omega⟩
  have he : 0 ≤ e := by omega
  refine mj_met (by decide +kernel) (Nat.le_of_ble_eq_true rfl) ?_
  unfold F_Laws_add_c7
  refine mj_L (L' := [(0, .ref 8), (1, .ref 7), (2, .int x2)]) [0, 1, 2] rfl ?_
  refine mj_aload_n (pc := 0) (i := 0) rfl dd_Laws_add_0 ?_
  refine mj_getI (pc := 1) (b := 8) (k := 0) qf_Laws_30 sh_8 cl_5 rfl (by decide) rfl dd_Laws_add_1 ?_
  refine mj_iconst (pc := 4) (v := (4 : Int32)) (by decide) dd_Laws_add_4 ?_
  refine mj_icmp_ge (pc := 5) (tgt := 59) dd_Laws_add_5 rfl (fun h1 => ?_) (fun h1 => ?_)
  · exact mj_vret dd_Laws_add_59 rfl rfl
  · refine mj_iload_n (pc := 8) (i := 2) rfl dd_Laws_add_8 ?_
    refine mj_sipush (pc := 9) (v := (240 : Int32)) (by decide) dd_Laws_add_9 ?_
    refine mj_icmp_gt (pc := 12) (tgt := 59) dd_Laws_add_12 rfl (fun h2 => ?_) (fun h2 => ?_)
    · exact mj_vret dd_Laws_add_59 rfl rfl
    · refine mj_iload_n (pc := 15) (i := 2) rfl dd_Laws_add_15 ?_
      refine mj_aload_n (pc := 16) (i := 1) rfl dd_Laws_add_16 ?_
      refine mj_alen (pc := 17) (v := (240 : Int32)) sh_7 (by decide) dd_Laws_add_17 ?_
      refine mj_icmp_gt (pc := 18) (tgt := 59) dd_Laws_add_18 rfl (fun h3 => ?_) (fun h3 => ?_)
      · exact mj_vret dd_Laws_add_59 rfl rfl
      · refine mj_aload_n (pc := 21) (i := 1) rfl dd_Laws_add_21 ?_
        refine mj_iconst (pc := 22) (v := (0 : Int32)) (by decide) dd_Laws_add_22 ?_
        refine mj_aload_n (pc := 23) (i := 0) rfl dd_Laws_add_23 ?_
        refine mj_getR (pc := 24) (b := 8) (k := 3) qf_Laws_21 sh_8 cl_5 rfl (by decide) (r := 10) rfl dd_Laws_add_24 ?_
        refine mj_aload_n (pc := 27) (i := 0) rfl dd_Laws_add_27 ?_
        refine mj_getI (pc := 28) (b := 8) (k := 0) qf_Laws_30 sh_8 cl_5 rfl (by decide) rfl dd_Laws_add_28 ?_
        refine mj_sipush (pc := 31) (v := (240 : Int32)) (by decide) dd_Laws_add_31 ?_
        refine mj_imul (pc := 34) dd_Laws_add_34 ?_
        refine mj_iload_n (pc := 35) (i := 2) rfl dd_Laws_add_35 ?_
        refine mj_copy (pc := 36) (idx := 33) sh_7 sh_10 qm_Laws_33 (Nat.le_of_ble_eq_true rfl) dd_Laws_add_36 (fun M4 _ => ?_)
        refine mj_aload_n (pc := 39) (i := 0) rfl dd_Laws_add_39 ?_
        refine mj_getR (pc := 40) (b := 8) (k := 4) qf_Laws_24 sh_8 cl_5 rfl (by decide) (r := 11) rfl dd_Laws_add_40 ?_
        refine mj_aload_n (pc := 43) (i := 0) rfl dd_Laws_add_43 ?_
        refine mj_getI (pc := 44) (b := 8) (k := 0) qf_Laws_30 sh_8 cl_5 rfl (by decide) rfl dd_Laws_add_44 ?_
        refine mj_iload_n (pc := 47) (i := 2) rfl dd_Laws_add_47 ?_
        refine mj_iast (pc := 48) sh_11 dd_Laws_add_48 (fun M5 _ => ?_)
        refine mj_aload_n (pc := 49) (i := 0) rfl dd_Laws_add_49 ?_
        refine mj_dup (pc := 50) rfl dd_Laws_add_50 ?_
        refine mj_getI (pc := 51) (b := 8) (k := 0) qf_Laws_30 sh_8 cl_5 rfl (by decide) rfl dd_Laws_add_51 ?_
        refine mj_iconst (pc := 54) (v := (1 : Int32)) (by decide) dd_Laws_add_54 ?_
        refine mj_iadd (pc := 55) dd_Laws_add_55 ?_
        refine mj_putI (pc := 56) (b := 8) (k := 0) qf_Laws_30 sh_8 cl_5 rfl (by decide) (by decide) rfl rfl rfl dd_Laws_add_56 (fun M6 _ => ?_)
        exact mj_vret dd_Laws_add_59 rfl rfl
def F_W_text_b27 (N : Nat) (x1 : Int32) (M : mj_M) : Option (Int32 × mj_M) :=
    if x1 = (1 : Int32) then
     (if (4 : Int32) ≤ (M 8 0) then
     (some ((-1 : Int32), M))
     else
     ((F_LawReader_read N M).bind (fun q7 =>
     if q7.1 = (-1 : Int32) then
     ((F_Laws_add_c7 (q7.2 6 1) q7.2).bind (fun q9 =>
     mj_lt (mj_u q9 2 1 (0 : Int32)) (fun M10 =>
     some ((M10 8 0) - (1 : Int32), M10))))
     else
     (some ((-1 : Int32), q7.2)))))
     else
     (some ((-1 : Int32), M))
set_option maxRecDepth 20000 in
theorem T_W_text_b27 {g : mj_G} (N : Nat) (e : Nat) (he : 97 ≤ e) (x1 : Int32) (M : mj_M) : mj_X g (mj_qI g) "WinterTellers" c_W_text 2 (some .int) e 27 [(0, .ref 0), (1, .int x1)] [] M (F_W_text_b27 N x1 M) := by
  unfold F_W_text_b27
  refine mj_iload_n (pc := 27) (i := 1) rfl dd_W_text_27 ?_
  refine mj_iconst (pc := 28) (v := (1 : Int32)) (by decide) dd_W_text_28 ?_
  refine mj_icmp_ne (pc := 29) (tgt := 93) dd_W_text_29 rfl (fun h5 => ?_) (fun h5 => ?_)
  · refine mj_aload_n (pc := 32) (i := 0) rfl dd_W_text_32 ?_
    refine mj_getR (pc := 33) (b := 0) (k := 3) qf_W_35 sh_0 cl_11 rfl (by decide) (r := 8) rfl dd_W_text_33 ?_
    refine mj_getI (pc := 36) (b := 8) (k := 0) qf_W_124 sh_8 cl_5 rfl (by decide) rfl dd_W_text_36 ?_
    refine mj_iconst (pc := 39) (v := (4 : Int32)) (by decide) dd_W_text_39 ?_
    refine mj_icmp_ge (pc := 40) (tgt := 93) dd_W_text_40 rfl (fun h6 => ?_) (fun h6 => ?_)
    · refine mj_iconst (pc := 93) (v := (-1 : Int32)) (by decide) dd_W_text_93 ?_
      exact mj_iret dd_W_text_94 rfl rfl
    · refine mj_aload_n (pc := 43) (i := 0) rfl dd_W_text_43 ?_
      refine mj_getR (pc := 44) (b := 0) (k := 2) qf_W_28 sh_0 cl_11 rfl (by decide) (r := 6) rfl dd_W_text_44 ?_
      refine mj_callVI (pc := 47) (idx := 117) (b := 6) (As := []) (st := []) sh_6 cl_4 ev_LawReader_read ql_W_117 rfl (Nat.le_of_ble_eq_true rfl) (T_LawReader_read (g := g) N e (by omega) M) dd_W_text_47 (fun q7 hq7 => ?_)
      refine mj_iconst (pc := 50) (v := (-1 : Int32)) (by decide) dd_W_text_50 ?_
      refine mj_icmp_ne (pc := 51) (tgt := 93) dd_W_text_51 rfl (fun h8 => ?_) (fun h8 => ?_)
      · refine mj_aload_n (pc := 54) (i := 0) rfl dd_W_text_54 ?_
        refine mj_getR (pc := 55) (b := 0) (k := 3) qf_W_35 sh_0 cl_11 rfl (by decide) (r := 8) rfl dd_W_text_55 ?_
        refine mj_aload_n (pc := 58) (i := 0) rfl dd_W_text_58 ?_
        refine mj_getR (pc := 59) (b := 0) (k := 2) qf_W_28 sh_0 cl_11 rfl (by decide) (r := 6) rfl dd_W_text_59 ?_
        refine mj_getR (pc := 62) (b := 6) (k := 0) qf_W_127 sh_6 cl_4 rfl (by decide) (r := 7) rfl dd_W_text_62 ?_
        refine mj_aload_n (pc := 65) (i := 0) rfl dd_W_text_65 ?_
        refine mj_getR (pc := 66) (b := 0) (k := 2) qf_W_28 sh_0 cl_11 rfl (by decide) (r := 6) rfl dd_W_text_66 ?_
        refine mj_getI (pc := 69) (b := 6) (k := 1) qf_W_130 sh_6 cl_4 rfl (by decide) rfl dd_W_text_69 ?_
        refine mj_callVV (pc := 72) (idx := 131) (b := 8) (As := [.ref 7, .int (q7.2 6 1)]) (st := []) sh_8 cl_5 ev_Laws_add ql_W_131 rfl (Nat.le_of_ble_eq_true rfl) (T_Laws_add_c7 (g := g) e (by omega) (q7.2 6 1) q7.2) dd_W_text_72 (fun q9 hq9 => ?_)
        refine mj_aload_n (pc := 75) (i := 0) rfl dd_W_text_75 ?_
        refine mj_getR (pc := 76) (b := 0) (k := 0) qf_W_12 sh_0 cl_11 rfl (by decide) (r := 2) rfl dd_W_text_76 ?_
        refine mj_iconst (pc := 79) (v := (0 : Int32)) (by decide) dd_W_text_79 ?_
        refine mj_putI (pc := 80) (b := 2) (k := 1) qf_W_106 sh_2 cl_10 rfl (by decide) (by decide) rfl rfl rfl dd_W_text_80 (fun M10 _ => ?_)
        refine mj_aload_n (pc := 83) (i := 0) rfl dd_W_text_83 ?_
        refine mj_getR (pc := 84) (b := 0) (k := 3) qf_W_35 sh_0 cl_11 rfl (by decide) (r := 8) rfl dd_W_text_84 ?_
        refine mj_getI (pc := 87) (b := 8) (k := 0) qf_W_124 sh_8 cl_5 rfl (by decide) rfl dd_W_text_87 ?_
        refine mj_iconst (pc := 90) (v := (1 : Int32)) (by decide) dd_W_text_90 ?_
        refine mj_isub (pc := 91) dd_W_text_91 ?_
        exact mj_iret dd_W_text_92 rfl rfl
      · refine mj_iconst (pc := 93) (v := (-1 : Int32)) (by decide) dd_W_text_93 ?_
        exact mj_iret dd_W_text_94 rfl rfl
  · refine mj_iconst (pc := 93) (v := (-1 : Int32)) (by decide) dd_W_text_93 ?_
    exact mj_iret dd_W_text_94 rfl rfl
def F_W_text (N : Nat) (x1 : Int32) (M : mj_M) : Option (Int32 × mj_M) :=
    if x1 = (0) then
     ((F_CoastReader_read N M).bind (fun q2 =>
     if q2.1 = (-1 : Int32) then
     ((F_W_takeCoast N q2.2).bind (fun q4 =>
     some (q4 13 0, q4)))
     else
     (F_W_text_b27 N x1 q2.2)))
     else
     (F_W_text_b27 N x1 M)
set_option maxRecDepth 20000 in
theorem T_W_text {g : mj_G} (N : Nat) : ∀ d, 98 ≤ d → ∀ (x1 : Int32) (M : mj_M), mj_Mt g (mj_qI g) d y_W_text c_W_text 2 (some .int) [.ref 0, .int x1] M (F_W_text N x1 M) := by
  intro d hd x1 M
  obtain ⟨e, rfl⟩ : ∃ e, d = e + 1 := ⟨d - 1, by omega⟩
  have he : 97 ≤ e := by omega
  refine mj_met (by decide +kernel) (Nat.le_of_ble_eq_true rfl) ?_
  unfold F_W_text
  refine mj_L (L' := [(0, .ref 0), (1, .int x1)]) [0, 1] rfl ?_
  refine mj_iload_n (pc := 0) (i := 1) rfl dd_W_text_0 ?_
  refine mj_if_ne (pc := 1) (tgt := 27) dd_W_text_1 rfl (fun h1 => ?_) (fun h1 => ?_)
  · refine mj_aload_n (pc := 4) (i := 0) rfl dd_W_text_4 ?_
    refine mj_getR (pc := 5) (b := 0) (k := 1) qf_W_21 sh_0 cl_11 rfl (by decide) (r := 4) rfl dd_W_text_5 ?_
    refine mj_callVI (pc := 8) (idx := 113) (b := 4) (As := []) (st := []) sh_4 cl_1 ev_CoastReader_read ql_W_113 rfl (Nat.le_of_ble_eq_true rfl) (T_CoastReader_read (g := g) N e (by omega) M) dd_W_text_8 (fun q2 hq2 => ?_)
    refine mj_iconst (pc := 11) (v := (-1 : Int32)) (by decide) dd_W_text_11 ?_
    refine mj_icmp_ne (pc := 12) (tgt := 27) dd_W_text_12 rfl (fun h3 => ?_) (fun h3 => ?_)
    · refine mj_aload_n (pc := 15) (i := 0) rfl dd_W_text_15 ?_
      refine mj_callVV (pc := 16) (idx := 118) (b := 0) (As := []) (st := []) sh_0 cl_11 ev_W_takeCoast ql_W_118 rfl (Nat.le_of_ble_eq_true rfl) (T_W_takeCoast (g := g) N e (by omega) q2.2) dd_W_text_16 (fun q4 hq4 => ?_)
      refine mj_aload_n (pc := 19) (i := 0) rfl dd_W_text_19 ?_
      refine mj_getR (pc := 20) (b := 0) (k := 4) qf_W_42 sh_0 cl_11 rfl (by decide) (r := 13) rfl dd_W_text_20 ?_
      refine mj_getI (pc := 23) (b := 13) (k := 0) qf_W_121 sh_13 cl_0 rfl (by decide) rfl dd_W_text_23 ?_
      exact mj_iret dd_W_text_26 rfl rfl
    · refine mj_L (L' := [(0, .ref 0), (1, .int x1)]) [0, 1] rfl ?_
      exact T_W_text_b27 (g := g) N e he x1 q2.2
  · refine mj_L (L' := [(0, .ref 0), (1, .int x1)]) [0, 1] rfl ?_
    exact T_W_text_b27 (g := g) N e he x1 M
def F_M_ofTale (x1 : Int32) (x2 : Int32) (M : mj_M) : Option (Int32 × mj_M) :=
    mj_ck (((3 : Int32) * x1) + x2) 18 (
     some (M 64 (((3 : Int32) * x1) + x2).toNatClampNeg, M))
set_option maxRecDepth 20000 in
theorem T_M_ofTale {g : mj_G} : ∀ d, 1 ≤ d → ∀ (x1 : Int32) (x2 : Int32) (M : mj_M), mj_Mt g (mj_qI g) d y_M_ofTale c_M_ofTale 3 (some .int) [.ref 48, .int x1, .int x2] M (F_M_ofTale x1 x2 M) := by
  intro d hd x1 x2 M
  obtain ⟨e, rfl⟩ : ∃ e, d = e + 1 := ⟨d - 1, by omega⟩
  have he : 0 ≤ e := by omega
  refine mj_met (by decide +kernel) (Nat.le_of_ble_eq_true rfl) ?_
  unfold F_M_ofTale
  refine mj_L (L' := [(0, .ref 48), (1, .int x1), (2, .int x2)]) [0, 1, 2] rfl ?_
  refine mj_aload_n (pc := 0) (i := 0) rfl dd_M_ofTale_0 ?_
  refine mj_getR (pc := 1) (b := 48) (k := 24) qf_M_55 sh_48 cl_12 rfl (by decide) (r := 64) rfl dd_M_ofTale_1 ?_
  refine mj_iconst (pc := 4) (v := (3 : Int32)) (by decide) dd_M_ofTale_4 ?_
  refine mj_iload_n (pc := 5) (i := 1) rfl dd_M_ofTale_5 ?_
  refine mj_imul (pc := 6) dd_M_ofTale_6 ?_
  refine mj_iload_n (pc := 7) (i := 2) rfl dd_M_ofTale_7 ?_
  refine mj_iadd (pc := 8) dd_M_ofTale_8 ?_
  refine mj_iald (pc := 9) sh_64 dd_M_ofTale_9 ?_
  exact mj_iret dd_M_ofTale_10 rfl rfl
def F_M_ofHouse (x1 : Int32) (x2 : Int32) (M : mj_M) : Option (Int32 × mj_M) :=
    mj_ck (((3 : Int32) * x1) + x2) 18 (
     some (M 63 (((3 : Int32) * x1) + x2).toNatClampNeg, M))
set_option maxRecDepth 20000 in
theorem T_M_ofHouse {g : mj_G} : ∀ d, 1 ≤ d → ∀ (x1 : Int32) (x2 : Int32) (M : mj_M), mj_Mt g (mj_qI g) d y_M_ofHouse c_M_ofHouse 3 (some .int) [.ref 48, .int x1, .int x2] M (F_M_ofHouse x1 x2 M) := by
  intro d hd x1 x2 M
  obtain ⟨e, rfl⟩ : ∃ e, d = e + 1 := ⟨d - 1, by omega⟩
  have he : 0 ≤ e := by omega
  refine mj_met (by decide +kernel) (Nat.le_of_ble_eq_true rfl) ?_
  unfold F_M_ofHouse
  refine mj_L (L' := [(0, .ref 48), (1, .int x1), (2, .int x2)]) [0, 1, 2] rfl ?_
  refine mj_aload_n (pc := 0) (i := 0) rfl dd_M_ofHouse_0 ?_
  refine mj_getR (pc := 1) (b := 48) (k := 23) qf_M_52 sh_48 cl_12 rfl (by decide) (r := 63) rfl dd_M_ofHouse_1 ?_
  refine mj_iconst (pc := 4) (v := (3 : Int32)) (by decide) dd_M_ofHouse_4 ?_
  refine mj_iload_n (pc := 5) (i := 1) rfl dd_M_ofHouse_5 ?_
  refine mj_imul (pc := 6) dd_M_ofHouse_6 ?_
  refine mj_iload_n (pc := 7) (i := 2) rfl dd_M_ofHouse_7 ?_
  refine mj_iadd (pc := 8) dd_M_ofHouse_8 ?_
  refine mj_iald (pc := 9) sh_63 dd_M_ofHouse_9 ?_
  exact mj_iret dd_M_ofHouse_10 rfl rfl
def F_M_takeCoast_b142 (N : Nat) (k117 : Int32 → mj_M → Option (Int32 × mj_M)) : Nat → Int32 → Int32 → mj_M → Option (Int32 × mj_M)
  | 0, _, _, _ => none
  | n + 1, x1, x2, M =>
    if (M 48 25) ≤ x2 then
     (k117 (x1 + (1 : Int32)) M)
     else
     ((F_M_ofHouse x2 (0 : Int32) M).bind (fun q21 =>
     mj_ck (((0 : Int32) + ((6 : Int32) * x2)) + x1) 229 (mj_lt (mj_u q21.2 65 (((0 : Int32) + ((6 : Int32) * x2)) + x1).toNatClampNeg ((q21.1 >>> (x1 &&& 31)) &&& (1 : Int32))) (fun M22 =>
     F_M_takeCoast_b142 N k117 n x1 (x2 + (1 : Int32)) M22))))
set_option maxRecDepth 20000 in
theorem T_M_takeCoast_b142 {g : mj_G} (N : Nat) (e : Nat) (he : 1 ≤ e) (k117 : Int32 → mj_M → Option (Int32 × mj_M)) (hk117 : ∀ (x1 : Int32) (M : mj_M), mj_X g (mj_qI g) "WinterTellersModel" c_M_takeCoast 3 (some .int) e 117 [(0, .ref 48), (1, .int x1)] [] M (k117 x1 M)) : ∀ (n : Nat) (x1 : Int32) (x2 : Int32) (M : mj_M), mj_X g (mj_qI g) "WinterTellersModel" c_M_takeCoast 3 (some .int) e 142 [(0, .ref 48), (1, .int x1), (2, .int x2)] [] M (F_M_takeCoast_b142 N k117 n x1 x2 M) := by
  intro n
  induction n with
  | zero => intro x1 x2 M; exact mj_none
  | succ n ih =>
    intro x1 x2 M
    rw [F_M_takeCoast_b142]
    refine mj_iload_n (pc := 142) (i := 2) rfl dd_M_takeCoast_142 ?_
    refine mj_aload_n (pc := 143) (i := 0) rfl dd_M_takeCoast_143 ?_
    refine mj_getI (pc := 144) (b := 48) (k := 25) qf_M_242 sh_48 cl_12 rfl (by decide) rfl dd_M_takeCoast_144 ?_
    refine mj_icmp_ge (pc := 147) (tgt := 179) dd_M_takeCoast_147 rfl (fun h20 => ?_) (fun h20 => ?_)
    · refine mj_iinc (pc := 179) (i := 1) (z := (1 : Int32)) rfl (by decide) (by decide) dd_M_takeCoast_179 ?_
      refine mj_L (L' := [(1, .int (x1 + (1 : Int32))), (0, .ref 48)]) [0, 1] rfl ?_
      refine mj_goto (pc := 182) (tgt := 117) dd_M_takeCoast_182 rfl ?_
      refine mj_L (L' := [(0, .ref 48), (1, .int (x1 + (1 : Int32)))]) [1, 0] rfl ?_
      exact hk117 (x1 + (1 : Int32)) M
    · refine mj_aload_n (pc := 150) (i := 0) rfl dd_M_takeCoast_150 ?_
      refine mj_getR (pc := 151) (b := 48) (k := 27) qf_M_58 sh_48 cl_12 rfl (by decide) (r := 65) rfl dd_M_takeCoast_151 ?_
      refine mj_iconst (pc := 154) (v := (0 : Int32)) (by decide) dd_M_takeCoast_154 ?_
      refine mj_bipush (pc := 155) (v := (6 : Int32)) (by decide) dd_M_takeCoast_155 ?_
      refine mj_iload_n (pc := 157) (i := 2) rfl dd_M_takeCoast_157 ?_
      refine mj_imul (pc := 158) dd_M_takeCoast_158 ?_
      refine mj_iadd (pc := 159) dd_M_takeCoast_159 ?_
      refine mj_iload_n (pc := 160) (i := 1) rfl dd_M_takeCoast_160 ?_
      refine mj_iadd (pc := 161) dd_M_takeCoast_161 ?_
      refine mj_aload_n (pc := 162) (i := 0) rfl dd_M_takeCoast_162 ?_
      refine mj_iload_n (pc := 163) (i := 2) rfl dd_M_takeCoast_163 ?_
      refine mj_iconst (pc := 164) (v := (0 : Int32)) (by decide) dd_M_takeCoast_164 ?_
      refine mj_callVI (pc := 165) (idx := 251) (b := 48) (As := [.int x2, .int (0 : Int32)]) (st := [.int (((0 : Int32) + ((6 : Int32) * x2)) + x1), .ref 65]) sh_48 cl_12 ev_M_ofHouse ql_M_251 rfl (Nat.le_of_ble_eq_true rfl) (T_M_ofHouse (g := g) e (by omega) x2 (0 : Int32) M) dd_M_takeCoast_165 (fun q21 hq21 => ?_)
      refine mj_iload_n (pc := 168) (i := 1) rfl dd_M_takeCoast_168 ?_
      refine mj_ishr (pc := 169) dd_M_takeCoast_169 ?_
      refine mj_iconst (pc := 170) (v := (1 : Int32)) (by decide) dd_M_takeCoast_170 ?_
      refine mj_iand (pc := 171) dd_M_takeCoast_171 ?_
      refine mj_iast (pc := 172) sh_65 dd_M_takeCoast_172 (fun M22 _ => ?_)
      refine mj_iinc (pc := 173) (i := 2) (z := (1 : Int32)) rfl (by decide) (by decide) dd_M_takeCoast_173 ?_
      refine mj_L (L' := [(2, .int (x2 + (1 : Int32))), (0, .ref 48), (1, .int x1)]) [0, 1, 2] rfl ?_
      refine mj_goto (pc := 176) (tgt := 142) dd_M_takeCoast_176 rfl ?_
      refine mj_L (L' := [(0, .ref 48), (1, .int x1), (2, .int (x2 + (1 : Int32)))]) [1, 2, 0] rfl ?_
      exact ih x1 (x2 + (1 : Int32)) M22
def F_M_takeCoast_b117 (N : Nat) : Nat → Int32 → mj_M → Option (Int32 × mj_M)
  | 0, _, _ => none
  | n + 1, x1, M =>
    if (M 48 26) ≤ x1 then
     (mj_lt (mj_u M 65 42 (M 62 2)) (fun M12 =>
     mj_lt (mj_u M12 65 43 ((M12 62 1) &&& (((1 : Int32) <<< ((M12 48 26) &&& 31)) - (1 : Int32)))) (fun M13 =>
     mj_lt (mj_u M13 65 44 (M13 62 0)) (fun M14 =>
     mj_lt (mj_u M14 48 40 (0 : Int32)) (fun M15 =>
     mj_lt (mj_u M15 48 32 (0 : Int32)) (fun M16 =>
     mj_lt (mj_u M16 48 44 (0 : Int32)) (fun M17 =>
     some (M17 48 25, M17))))))))
     else
     ((F_M_ofTale x1 (1 : Int32) M).bind (fun q18 =>
     mj_ck ((36 : Int32) + x1) 229 (mj_lt (mj_u q18.2 65 ((36 : Int32) + x1).toNatClampNeg q18.1) (fun M19 =>
     F_M_takeCoast_b142 N (F_M_takeCoast_b117 N n) N x1 (0 : Int32) M19))))
set_option maxRecDepth 20000 in
theorem T_M_takeCoast_b117 {g : mj_G} (N : Nat) (e : Nat) (he : 1 ≤ e) : ∀ (n : Nat) (x1 : Int32) (M : mj_M), mj_X g (mj_qI g) "WinterTellersModel" c_M_takeCoast 3 (some .int) e 117 [(0, .ref 48), (1, .int x1)] [] M (F_M_takeCoast_b117 N n x1 M) := by
  intro n
  induction n with
  | zero => intro x1 M; exact mj_none
  | succ n ih =>
    intro x1 M
    rw [F_M_takeCoast_b117]
    refine mj_iload_n (pc := 117) (i := 1) rfl dd_M_takeCoast_117 ?_
    refine mj_aload_n (pc := 118) (i := 0) rfl dd_M_takeCoast_118 ?_
    refine mj_getI (pc := 119) (b := 48) (k := 26) qf_M_245 sh_48 cl_12 rfl (by decide) rfl dd_M_takeCoast_119 ?_
    refine mj_icmp_ge (pc := 122) (tgt := 185) dd_M_takeCoast_122 rfl (fun h11 => ?_) (fun h11 => ?_)
    · refine mj_aload_n (pc := 185) (i := 0) rfl dd_M_takeCoast_185 ?_
      refine mj_getR (pc := 186) (b := 48) (k := 27) qf_M_58 sh_48 cl_12 rfl (by decide) (r := 65) rfl dd_M_takeCoast_186 ?_
      refine mj_bipush (pc := 189) (v := (42 : Int32)) (by decide) dd_M_takeCoast_189 ?_
      refine mj_aload_n (pc := 191) (i := 0) rfl dd_M_takeCoast_191 ?_
      refine mj_getR (pc := 192) (b := 48) (k := 22) qf_M_49 sh_48 cl_12 rfl (by decide) (r := 62) rfl dd_M_takeCoast_192 ?_
      refine mj_iconst (pc := 195) (v := (2 : Int32)) (by decide) dd_M_takeCoast_195 ?_
      refine mj_ialdK (pc := 196) (j := 2) sh_62 (by decide) rfl dd_M_takeCoast_196 ?_
      refine mj_iastK (pc := 197) (j := 42) sh_65 (by decide) rfl dd_M_takeCoast_197 (fun M12 _ => ?_)
      refine mj_aload_n (pc := 198) (i := 0) rfl dd_M_takeCoast_198 ?_
      refine mj_getR (pc := 199) (b := 48) (k := 27) qf_M_58 sh_48 cl_12 rfl (by decide) (r := 65) rfl dd_M_takeCoast_199 ?_
      refine mj_bipush (pc := 202) (v := (43 : Int32)) (by decide) dd_M_takeCoast_202 ?_
      refine mj_aload_n (pc := 204) (i := 0) rfl dd_M_takeCoast_204 ?_
      refine mj_getR (pc := 205) (b := 48) (k := 22) qf_M_49 sh_48 cl_12 rfl (by decide) (r := 62) rfl dd_M_takeCoast_205 ?_
      refine mj_iconst (pc := 208) (v := (1 : Int32)) (by decide) dd_M_takeCoast_208 ?_
      refine mj_ialdK (pc := 209) (j := 1) sh_62 (by decide) rfl dd_M_takeCoast_209 ?_
      refine mj_iconst (pc := 210) (v := (1 : Int32)) (by decide) dd_M_takeCoast_210 ?_
      refine mj_aload_n (pc := 211) (i := 0) rfl dd_M_takeCoast_211 ?_
      refine mj_getI (pc := 212) (b := 48) (k := 26) qf_M_245 sh_48 cl_12 rfl (by decide) rfl dd_M_takeCoast_212 ?_
      refine mj_ishl (pc := 215) dd_M_takeCoast_215 ?_
      refine mj_iconst (pc := 216) (v := (1 : Int32)) (by decide) dd_M_takeCoast_216 ?_
      refine mj_isub (pc := 217) dd_M_takeCoast_217 ?_
      refine mj_iand (pc := 218) dd_M_takeCoast_218 ?_
      refine mj_iastK (pc := 219) (j := 43) sh_65 (by decide) rfl dd_M_takeCoast_219 (fun M13 _ => ?_)
      refine mj_aload_n (pc := 220) (i := 0) rfl dd_M_takeCoast_220 ?_
      refine mj_getR (pc := 221) (b := 48) (k := 27) qf_M_58 sh_48 cl_12 rfl (by decide) (r := 65) rfl dd_M_takeCoast_221 ?_
      refine mj_bipush (pc := 224) (v := (44 : Int32)) (by decide) dd_M_takeCoast_224 ?_
      refine mj_aload_n (pc := 226) (i := 0) rfl dd_M_takeCoast_226 ?_
      refine mj_getR (pc := 227) (b := 48) (k := 22) qf_M_49 sh_48 cl_12 rfl (by decide) (r := 62) rfl dd_M_takeCoast_227 ?_
      refine mj_iconst (pc := 230) (v := (0 : Int32)) (by decide) dd_M_takeCoast_230 ?_
      refine mj_ialdK (pc := 231) (j := 0) sh_62 (by decide) rfl dd_M_takeCoast_231 ?_
      refine mj_iastK (pc := 232) (j := 44) sh_65 (by decide) rfl dd_M_takeCoast_232 (fun M14 _ => ?_)
      refine mj_aload_n (pc := 233) (i := 0) rfl dd_M_takeCoast_233 ?_
      refine mj_iconst (pc := 234) (v := (0 : Int32)) (by decide) dd_M_takeCoast_234 ?_
      refine mj_putI (pc := 235) (b := 48) (k := 40) qf_M_254 sh_48 cl_12 rfl (by decide) (by decide) rfl rfl rfl dd_M_takeCoast_235 (fun M15 _ => ?_)
      refine mj_aload_n (pc := 238) (i := 0) rfl dd_M_takeCoast_238 ?_
      refine mj_iconst (pc := 239) (v := (0 : Int32)) (by decide) dd_M_takeCoast_239 ?_
      refine mj_putI (pc := 240) (b := 48) (k := 32) qf_M_257 sh_48 cl_12 rfl (by decide) (by decide) rfl rfl rfl dd_M_takeCoast_240 (fun M16 _ => ?_)
      refine mj_aload_n (pc := 243) (i := 0) rfl dd_M_takeCoast_243 ?_
      refine mj_iconst (pc := 244) (v := (0 : Int32)) (by decide) dd_M_takeCoast_244 ?_
      refine mj_putZ (pc := 245) (b := 48) (k := 44) qf_M_260 sh_48 cl_12 rfl (by decide) (by decide) (by decide) rfl rfl rfl dd_M_takeCoast_245 (fun M17 _ => ?_)
      refine mj_aload_n (pc := 248) (i := 0) rfl dd_M_takeCoast_248 ?_
      refine mj_getI (pc := 249) (b := 48) (k := 25) qf_M_242 sh_48 cl_12 rfl (by decide) rfl dd_M_takeCoast_249 ?_
      exact mj_iret dd_M_takeCoast_252 rfl rfl
    · refine mj_aload_n (pc := 125) (i := 0) rfl dd_M_takeCoast_125 ?_
      refine mj_getR (pc := 126) (b := 48) (k := 27) qf_M_58 sh_48 cl_12 rfl (by decide) (r := 65) rfl dd_M_takeCoast_126 ?_
      refine mj_bipush (pc := 129) (v := (36 : Int32)) (by decide) dd_M_takeCoast_129 ?_
      refine mj_iload_n (pc := 131) (i := 1) rfl dd_M_takeCoast_131 ?_
      refine mj_iadd (pc := 132) dd_M_takeCoast_132 ?_
      refine mj_aload_n (pc := 133) (i := 0) rfl dd_M_takeCoast_133 ?_
      refine mj_iload_n (pc := 134) (i := 1) rfl dd_M_takeCoast_134 ?_
      refine mj_iconst (pc := 135) (v := (1 : Int32)) (by decide) dd_M_takeCoast_135 ?_
      refine mj_callVI (pc := 136) (idx := 248) (b := 48) (As := [.int x1, .int (1 : Int32)]) (st := [.int ((36 : Int32) + x1), .ref 65]) sh_48 cl_12 ev_M_ofTale ql_M_248 rfl (Nat.le_of_ble_eq_true rfl) (T_M_ofTale (g := g) e (by omega) x1 (1 : Int32) M) dd_M_takeCoast_136 (fun q18 hq18 => ?_)
      refine mj_iast (pc := 139) sh_65 dd_M_takeCoast_139 (fun M19 _ => ?_)
      refine mj_iconst (pc := 140) (v := (0 : Int32)) (by decide) dd_M_takeCoast_140 ?_
      refine mj_istore_n (pc := 141) (by decide) dd_M_takeCoast_141 ?_
      refine mj_L (L' := [(2, .int (0 : Int32)), (0, .ref 48), (1, .int x1)]) [0, 1, 2] rfl ?_
      refine mj_L (L' := [(0, .ref 48), (1, .int x1), (2, .int (0 : Int32))]) [1, 2, 0] rfl ?_
      exact T_M_takeCoast_b142 (g := g) N e he (F_M_takeCoast_b117 N n) ih N x1 (0 : Int32) M19
def F_M_takeCoast_b95 (N : Nat) : Nat → Int32 → mj_M → Option (Int32 × mj_M)
  | 0, _, _ => none
  | n + 1, x1, M =>
    if (229 : Int32) ≤ x1 then
     (F_M_takeCoast_b117 N N (0 : Int32) M)
     else
     (mj_ck x1 229 (mj_lt (mj_u M 65 x1.toNatClampNeg (0 : Int32)) (fun M10 =>
     F_M_takeCoast_b95 N n (x1 + (1 : Int32)) M10)))
set_option maxRecDepth 20000 in
theorem T_M_takeCoast_b95 {g : mj_G} (N : Nat) (e : Nat) (he : 1 ≤ e) : ∀ (n : Nat) (x1 : Int32) (M : mj_M), mj_X g (mj_qI g) "WinterTellersModel" c_M_takeCoast 3 (some .int) e 95 [(0, .ref 48), (1, .int x1)] [] M (F_M_takeCoast_b95 N n x1 M) := by
  intro n
  induction n with
  | zero => intro x1 M; exact mj_none
  | succ n ih =>
    intro x1 M
    rw [F_M_takeCoast_b95]
    refine mj_iload_n (pc := 95) (i := 1) rfl dd_M_takeCoast_95 ?_
    refine mj_sipush (pc := 96) (v := (229 : Int32)) (by decide) dd_M_takeCoast_96 ?_
    refine mj_icmp_ge (pc := 99) (tgt := 115) dd_M_takeCoast_99 rfl (fun h9 => ?_) (fun h9 => ?_)
    · refine mj_iconst (pc := 115) (v := (0 : Int32)) (by decide) dd_M_takeCoast_115 ?_
      refine mj_istore_n (pc := 116) (by decide) dd_M_takeCoast_116 ?_
      refine mj_L (L' := [(1, .int (0 : Int32)), (0, .ref 48)]) [0, 1] rfl ?_
      refine mj_L (L' := [(0, .ref 48), (1, .int (0 : Int32))]) [1, 0] rfl ?_
      exact T_M_takeCoast_b117 (g := g) N e he N (0 : Int32) M
    · refine mj_aload_n (pc := 102) (i := 0) rfl dd_M_takeCoast_102 ?_
      refine mj_getR (pc := 103) (b := 48) (k := 27) qf_M_58 sh_48 cl_12 rfl (by decide) (r := 65) rfl dd_M_takeCoast_103 ?_
      refine mj_iload_n (pc := 106) (i := 1) rfl dd_M_takeCoast_106 ?_
      refine mj_iconst (pc := 107) (v := (0 : Int32)) (by decide) dd_M_takeCoast_107 ?_
      refine mj_iast (pc := 108) sh_65 dd_M_takeCoast_108 (fun M10 _ => ?_)
      refine mj_iinc (pc := 109) (i := 1) (z := (1 : Int32)) rfl (by decide) (by decide) dd_M_takeCoast_109 ?_
      refine mj_L (L' := [(1, .int (x1 + (1 : Int32))), (0, .ref 48)]) [0, 1] rfl ?_
      refine mj_goto (pc := 112) (tgt := 95) dd_M_takeCoast_112 rfl ?_
      refine mj_L (L' := [(0, .ref 48), (1, .int (x1 + (1 : Int32)))]) [1, 0] rfl ?_
      exact ih (x1 + (1 : Int32)) M10
def F_M_takeCoast_b69 (N : Nat) : Nat → Int32 → mj_M → Option (Int32 × mj_M)
  | 0, _, _ => none
  | n + 1, x1, M =>
    if (18 : Int32) ≤ x1 then
     (F_M_takeCoast_b95 N N (0 : Int32) M)
     else
     (mj_ck x1 18 (
     mj_ck x1 18 (mj_lt (mj_u M 64 x1.toNatClampNeg (M 61 x1.toNatClampNeg)) (fun M8 =>
     F_M_takeCoast_b69 N n (x1 + (1 : Int32)) M8))))
set_option maxRecDepth 20000 in
theorem T_M_takeCoast_b69 {g : mj_G} (N : Nat) (e : Nat) (he : 1 ≤ e) : ∀ (n : Nat) (x1 : Int32) (M : mj_M), mj_X g (mj_qI g) "WinterTellersModel" c_M_takeCoast 3 (some .int) e 69 [(0, .ref 48), (1, .int x1)] [] M (F_M_takeCoast_b69 N n x1 M) := by
  intro n
  induction n with
  | zero => intro x1 M; exact mj_none
  | succ n ih =>
    intro x1 M
    rw [F_M_takeCoast_b69]
    refine mj_iload_n (pc := 69) (i := 1) rfl dd_M_takeCoast_69 ?_
    refine mj_bipush (pc := 70) (v := (18 : Int32)) (by decide) dd_M_takeCoast_70 ?_
    refine mj_icmp_ge (pc := 72) (tgt := 93) dd_M_takeCoast_72 rfl (fun h7 => ?_) (fun h7 => ?_)
    · refine mj_iconst (pc := 93) (v := (0 : Int32)) (by decide) dd_M_takeCoast_93 ?_
      refine mj_istore_n (pc := 94) (by decide) dd_M_takeCoast_94 ?_
      refine mj_L (L' := [(1, .int (0 : Int32)), (0, .ref 48)]) [0, 1] rfl ?_
      refine mj_L (L' := [(0, .ref 48), (1, .int (0 : Int32))]) [1, 0] rfl ?_
      exact T_M_takeCoast_b95 (g := g) N e he N (0 : Int32) M
    · refine mj_aload_n (pc := 75) (i := 0) rfl dd_M_takeCoast_75 ?_
      refine mj_getR (pc := 76) (b := 48) (k := 24) qf_M_55 sh_48 cl_12 rfl (by decide) (r := 64) rfl dd_M_takeCoast_76 ?_
      refine mj_iload_n (pc := 79) (i := 1) rfl dd_M_takeCoast_79 ?_
      refine mj_aload_n (pc := 80) (i := 0) rfl dd_M_takeCoast_80 ?_
      refine mj_getR (pc := 81) (b := 48) (k := 19) qf_M_46 sh_48 cl_12 rfl (by decide) (r := 61) rfl dd_M_takeCoast_81 ?_
      refine mj_iload_n (pc := 84) (i := 1) rfl dd_M_takeCoast_84 ?_
      refine mj_iald (pc := 85) sh_61 dd_M_takeCoast_85 ?_
      refine mj_iast (pc := 86) sh_64 dd_M_takeCoast_86 (fun M8 _ => ?_)
      refine mj_iinc (pc := 87) (i := 1) (z := (1 : Int32)) rfl (by decide) (by decide) dd_M_takeCoast_87 ?_
      refine mj_L (L' := [(1, .int (x1 + (1 : Int32))), (0, .ref 48)]) [0, 1] rfl ?_
      refine mj_goto (pc := 90) (tgt := 69) dd_M_takeCoast_90 rfl ?_
      refine mj_L (L' := [(0, .ref 48), (1, .int (x1 + (1 : Int32)))]) [1, 0] rfl ?_
      exact ih (x1 + (1 : Int32)) M8
def F_M_takeCoast_b43 (N : Nat) : Nat → Int32 → mj_M → Option (Int32 × mj_M)
  | 0, _, _ => none
  | n + 1, x1, M =>
    if (18 : Int32) ≤ x1 then
     (F_M_takeCoast_b69 N N (0 : Int32) M)
     else
     (mj_ck x1 18 (
     mj_ck x1 18 (mj_lt (mj_u M 63 x1.toNatClampNeg (M 60 x1.toNatClampNeg)) (fun M6 =>
     F_M_takeCoast_b43 N n (x1 + (1 : Int32)) M6))))
set_option maxRecDepth 20000 in
theorem T_M_takeCoast_b43 {g : mj_G} (N : Nat) (e : Nat) (he : 1 ≤ e) : ∀ (n : Nat) (x1 : Int32) (M : mj_M), mj_X g (mj_qI g) "WinterTellersModel" c_M_takeCoast 3 (some .int) e 43 [(0, .ref 48), (1, .int x1)] [] M (F_M_takeCoast_b43 N n x1 M) := by
  intro n
  induction n with
  | zero => intro x1 M; exact mj_none
  | succ n ih =>
    intro x1 M
    rw [F_M_takeCoast_b43]
    refine mj_iload_n (pc := 43) (i := 1) rfl dd_M_takeCoast_43 ?_
    refine mj_bipush (pc := 44) (v := (18 : Int32)) (by decide) dd_M_takeCoast_44 ?_
    refine mj_icmp_ge (pc := 46) (tgt := 67) dd_M_takeCoast_46 rfl (fun h5 => ?_) (fun h5 => ?_)
    · refine mj_iconst (pc := 67) (v := (0 : Int32)) (by decide) dd_M_takeCoast_67 ?_
      refine mj_istore_n (pc := 68) (by decide) dd_M_takeCoast_68 ?_
      refine mj_L (L' := [(1, .int (0 : Int32)), (0, .ref 48)]) [0, 1] rfl ?_
      refine mj_L (L' := [(0, .ref 48), (1, .int (0 : Int32))]) [1, 0] rfl ?_
      exact T_M_takeCoast_b69 (g := g) N e he N (0 : Int32) M
    · refine mj_aload_n (pc := 49) (i := 0) rfl dd_M_takeCoast_49 ?_
      refine mj_getR (pc := 50) (b := 48) (k := 23) qf_M_52 sh_48 cl_12 rfl (by decide) (r := 63) rfl dd_M_takeCoast_50 ?_
      refine mj_iload_n (pc := 53) (i := 1) rfl dd_M_takeCoast_53 ?_
      refine mj_aload_n (pc := 54) (i := 0) rfl dd_M_takeCoast_54 ?_
      refine mj_getR (pc := 55) (b := 48) (k := 18) qf_M_43 sh_48 cl_12 rfl (by decide) (r := 60) rfl dd_M_takeCoast_55 ?_
      refine mj_iload_n (pc := 58) (i := 1) rfl dd_M_takeCoast_58 ?_
      refine mj_iald (pc := 59) sh_60 dd_M_takeCoast_59 ?_
      refine mj_iast (pc := 60) sh_63 dd_M_takeCoast_60 (fun M6 _ => ?_)
      refine mj_iinc (pc := 61) (i := 1) (z := (1 : Int32)) rfl (by decide) (by decide) dd_M_takeCoast_61 ?_
      refine mj_L (L' := [(1, .int (x1 + (1 : Int32))), (0, .ref 48)]) [0, 1] rfl ?_
      refine mj_goto (pc := 64) (tgt := 43) dd_M_takeCoast_64 rfl ?_
      refine mj_L (L' := [(0, .ref 48), (1, .int (x1 + (1 : Int32)))]) [1, 0] rfl ?_
      exact ih (x1 + (1 : Int32)) M6
def F_M_takeCoast_b18 (N : Nat) : Nat → Int32 → mj_M → Option (Int32 × mj_M)
  | 0, _, _ => none
  | n + 1, x1, M =>
    if (4 : Int32) ≤ x1 then
     (F_M_takeCoast_b43 N N (0 : Int32) M)
     else
     (mj_ck x1 4 (
     mj_ck x1 4 (mj_lt (mj_u M 62 x1.toNatClampNeg (M 59 x1.toNatClampNeg)) (fun M4 =>
     F_M_takeCoast_b18 N n (x1 + (1 : Int32)) M4))))
set_option maxRecDepth 20000 in
theorem T_M_takeCoast_b18 {g : mj_G} (N : Nat) (e : Nat) (he : 1 ≤ e) : ∀ (n : Nat) (x1 : Int32) (M : mj_M), mj_X g (mj_qI g) "WinterTellersModel" c_M_takeCoast 3 (some .int) e 18 [(0, .ref 48), (1, .int x1)] [] M (F_M_takeCoast_b18 N n x1 M) := by
  intro n
  induction n with
  | zero => intro x1 M; exact mj_none
  | succ n ih =>
    intro x1 M
    rw [F_M_takeCoast_b18]
    refine mj_iload_n (pc := 18) (i := 1) rfl dd_M_takeCoast_18 ?_
    refine mj_iconst (pc := 19) (v := (4 : Int32)) (by decide) dd_M_takeCoast_19 ?_
    refine mj_icmp_ge (pc := 20) (tgt := 41) dd_M_takeCoast_20 rfl (fun h3 => ?_) (fun h3 => ?_)
    · refine mj_iconst (pc := 41) (v := (0 : Int32)) (by decide) dd_M_takeCoast_41 ?_
      refine mj_istore_n (pc := 42) (by decide) dd_M_takeCoast_42 ?_
      refine mj_L (L' := [(1, .int (0 : Int32)), (0, .ref 48)]) [0, 1] rfl ?_
      refine mj_L (L' := [(0, .ref 48), (1, .int (0 : Int32))]) [1, 0] rfl ?_
      exact T_M_takeCoast_b43 (g := g) N e he N (0 : Int32) M
    · refine mj_aload_n (pc := 23) (i := 0) rfl dd_M_takeCoast_23 ?_
      refine mj_getR (pc := 24) (b := 48) (k := 22) qf_M_49 sh_48 cl_12 rfl (by decide) (r := 62) rfl dd_M_takeCoast_24 ?_
      refine mj_iload_n (pc := 27) (i := 1) rfl dd_M_takeCoast_27 ?_
      refine mj_aload_n (pc := 28) (i := 0) rfl dd_M_takeCoast_28 ?_
      refine mj_getR (pc := 29) (b := 48) (k := 17) qf_M_40 sh_48 cl_12 rfl (by decide) (r := 59) rfl dd_M_takeCoast_29 ?_
      refine mj_iload_n (pc := 32) (i := 1) rfl dd_M_takeCoast_32 ?_
      refine mj_iald (pc := 33) sh_59 dd_M_takeCoast_33 ?_
      refine mj_iast (pc := 34) sh_62 dd_M_takeCoast_34 (fun M4 _ => ?_)
      refine mj_iinc (pc := 35) (i := 1) (z := (1 : Int32)) rfl (by decide) (by decide) dd_M_takeCoast_35 ?_
      refine mj_L (L' := [(1, .int (x1 + (1 : Int32))), (0, .ref 48)]) [0, 1] rfl ?_
      refine mj_goto (pc := 38) (tgt := 18) dd_M_takeCoast_38 rfl ?_
      refine mj_L (L' := [(0, .ref 48), (1, .int (x1 + (1 : Int32)))]) [1, 0] rfl ?_
      exact ih (x1 + (1 : Int32)) M4
def F_M_takeCoast (N : Nat) (M : mj_M) : Option (Int32 × mj_M) :=
    mj_lt (mj_u M 48 25 (M 48 20)) (fun M1 =>
     mj_lt (mj_u M1 48 26 (M1 48 21)) (fun M2 =>
     F_M_takeCoast_b18 N N (0 : Int32) M2))
set_option maxRecDepth 20000 in
theorem T_M_takeCoast {g : mj_G} (N : Nat) : ∀ d, 2 ≤ d → ∀ (M : mj_M), mj_Mt g (mj_qI g) d y_M_takeCoast c_M_takeCoast 3 (some .int) [.ref 48] M (F_M_takeCoast N M) := by
  intro d hd M
  obtain ⟨e, rfl⟩ : ∃ e, d = e + 1 := ⟨d - 1, by omega⟩
  have he : 1 ≤ e := by omega
  refine mj_met (by decide +kernel) (Nat.le_of_ble_eq_true rfl) ?_
  unfold F_M_takeCoast
  refine mj_L (L' := [(0, .ref 48)]) [0] rfl ?_
  refine mj_aload_n (pc := 0) (i := 0) rfl dd_M_takeCoast_0 ?_
  refine mj_aload_n (pc := 1) (i := 0) rfl dd_M_takeCoast_1 ?_
  refine mj_getI (pc := 2) (b := 48) (k := 20) qf_M_226 sh_48 cl_12 rfl (by decide) rfl dd_M_takeCoast_2 ?_
  refine mj_putI (pc := 5) (b := 48) (k := 25) qf_M_242 sh_48 cl_12 rfl (by decide) (by decide) rfl rfl rfl dd_M_takeCoast_5 (fun M1 _ => ?_)
  refine mj_aload_n (pc := 8) (i := 0) rfl dd_M_takeCoast_8 ?_
  refine mj_aload_n (pc := 9) (i := 0) rfl dd_M_takeCoast_9 ?_
  refine mj_getI (pc := 10) (b := 48) (k := 21) qf_M_229 sh_48 cl_12 rfl (by decide) rfl dd_M_takeCoast_10 ?_
  refine mj_putI (pc := 13) (b := 48) (k := 26) qf_M_245 sh_48 cl_12 rfl (by decide) (by decide) rfl rfl rfl dd_M_takeCoast_13 (fun M2 _ => ?_)
  refine mj_iconst (pc := 16) (v := (0 : Int32)) (by decide) dd_M_takeCoast_16 ?_
  refine mj_istore_n (pc := 17) (by decide) dd_M_takeCoast_17 ?_
  refine mj_L (L' := [(1, .int (0 : Int32)), (0, .ref 48)]) [0, 1] rfl ?_
  refine mj_L (L' := [(0, .ref 48), (1, .int (0 : Int32))]) [1, 0] rfl ?_
  exact T_M_takeCoast_b18 (g := g) N e he N (0 : Int32) M2
def F_M_text_b22 (N : Nat) (x1 : Int32) (M : mj_M) : Option (Int32 × mj_M) :=
    if x1 = (1 : Int32) then
     (if (4 : Int32) ≤ (M 48 13) then
     (some ((-1 : Int32), M))
     else
     ((F_M_readLaw N (M 48 13) M).bind (fun q8 =>
     if q8.1 = (-1 : Int32) then
     (mj_lt (mj_u q8.2 48 2 (0 : Int32)) (fun M10 =>
     mj_lt (mj_u M10 48 13 ((M10 48 13) + (1 : Int32))) (fun M11 =>
     some ((M11 48 13) - (1 : Int32), M11))))
     else
     (some ((-1 : Int32), q8.2)))))
     else
     (some ((-1 : Int32), M))
set_option maxRecDepth 20000 in
theorem T_M_text_b22 {g : mj_G} (N : Nat) (e : Nat) (he : 110 ≤ e) (x1 : Int32) (M : mj_M) : mj_X g (mj_qI g) "WinterTellersModel" c_M_text 2 (some .int) e 22 [(0, .ref 48), (1, .int x1)] [] M (F_M_text_b22 N x1 M) := by
  unfold F_M_text_b22
  refine mj_iload_n (pc := 22) (i := 1) rfl dd_M_text_22 ?_
  refine mj_iconst (pc := 23) (v := (1 : Int32)) (by decide) dd_M_text_23 ?_
  refine mj_icmp_ne (pc := 24) (tgt := 69) dd_M_text_24 rfl (fun h6 => ?_) (fun h6 => ?_)
  · refine mj_aload_n (pc := 27) (i := 0) rfl dd_M_text_27 ?_
    refine mj_getI (pc := 28) (b := 48) (k := 13) qf_M_267 sh_48 cl_12 rfl (by decide) rfl dd_M_text_28 ?_
    refine mj_iconst (pc := 31) (v := (4 : Int32)) (by decide) dd_M_text_31 ?_
    refine mj_icmp_ge (pc := 32) (tgt := 69) dd_M_text_32 rfl (fun h7 => ?_) (fun h7 => ?_)
    · refine mj_iconst (pc := 69) (v := (-1 : Int32)) (by decide) dd_M_text_69 ?_
      exact mj_iret dd_M_text_70 rfl rfl
    · refine mj_aload_n (pc := 35) (i := 0) rfl dd_M_text_35 ?_
      refine mj_aload_n (pc := 36) (i := 0) rfl dd_M_text_36 ?_
      refine mj_getI (pc := 37) (b := 48) (k := 13) qf_M_267 sh_48 cl_12 rfl (by decide) rfl dd_M_text_37 ?_
      refine mj_callVI (pc := 40) (idx := 239) (b := 48) (As := [.int (M 48 13)]) (st := []) sh_48 cl_12 ev_M_readLaw ql_M_239 rfl (Nat.le_of_ble_eq_true rfl) (T_M_readLaw (g := g) N e (by omega) (M 48 13) M) dd_M_text_40 (fun q8 hq8 => ?_)
      refine mj_iconst (pc := 43) (v := (-1 : Int32)) (by decide) dd_M_text_43 ?_
      refine mj_icmp_ne (pc := 44) (tgt := 69) dd_M_text_44 rfl (fun h9 => ?_) (fun h9 => ?_)
      · refine mj_aload_n (pc := 47) (i := 0) rfl dd_M_text_47 ?_
        refine mj_iconst (pc := 48) (v := (0 : Int32)) (by decide) dd_M_text_48 ?_
        refine mj_putI (pc := 49) (b := 48) (k := 2) qf_M_97 sh_48 cl_12 rfl (by decide) (by decide) rfl rfl rfl dd_M_text_49 (fun M10 _ => ?_)
        refine mj_aload_n (pc := 52) (i := 0) rfl dd_M_text_52 ?_
        refine mj_dup (pc := 53) rfl dd_M_text_53 ?_
        refine mj_getI (pc := 54) (b := 48) (k := 13) qf_M_267 sh_48 cl_12 rfl (by decide) rfl dd_M_text_54 ?_
        refine mj_iconst (pc := 57) (v := (1 : Int32)) (by decide) dd_M_text_57 ?_
        refine mj_iadd (pc := 58) dd_M_text_58 ?_
        refine mj_putI (pc := 59) (b := 48) (k := 13) qf_M_267 sh_48 cl_12 rfl (by decide) (by decide) rfl rfl rfl dd_M_text_59 (fun M11 _ => ?_)
        refine mj_aload_n (pc := 62) (i := 0) rfl dd_M_text_62 ?_
        refine mj_getI (pc := 63) (b := 48) (k := 13) qf_M_267 sh_48 cl_12 rfl (by decide) rfl dd_M_text_63 ?_
        refine mj_iconst (pc := 66) (v := (1 : Int32)) (by decide) dd_M_text_66 ?_
        refine mj_isub (pc := 67) dd_M_text_67 ?_
        exact mj_iret dd_M_text_68 rfl rfl
      · refine mj_iconst (pc := 69) (v := (-1 : Int32)) (by decide) dd_M_text_69 ?_
        exact mj_iret dd_M_text_70 rfl rfl
  · refine mj_iconst (pc := 69) (v := (-1 : Int32)) (by decide) dd_M_text_69 ?_
    exact mj_iret dd_M_text_70 rfl rfl
def F_M_text (N : Nat) (x1 : Int32) (M : mj_M) : Option (Int32 × mj_M) :=
    if x1 = (0) then
     ((F_M_readCoast N M).bind (fun q2 =>
     if q2.1 = (-1 : Int32) then
     (mj_lt (mj_u q2.2 48 2 (0 : Int32)) (fun M4 =>
     (F_M_takeCoast N M4).bind (fun q5 =>
     some (q5.1, q5.2))))
     else
     (F_M_text_b22 N x1 q2.2)))
     else
     (F_M_text_b22 N x1 M)
set_option maxRecDepth 20000 in
theorem T_M_text {g : mj_G} (N : Nat) : ∀ d, 111 ≤ d → ∀ (x1 : Int32) (M : mj_M), mj_Mt g (mj_qI g) d y_M_text c_M_text 2 (some .int) [.ref 48, .int x1] M (F_M_text N x1 M) := by
  intro d hd x1 M
  obtain ⟨e, rfl⟩ : ∃ e, d = e + 1 := ⟨d - 1, by omega⟩
  have he : 110 ≤ e := by omega
  refine mj_met (by decide +kernel) (Nat.le_of_ble_eq_true rfl) ?_
  unfold F_M_text
  refine mj_L (L' := [(0, .ref 48), (1, .int x1)]) [0, 1] rfl ?_
  refine mj_iload_n (pc := 0) (i := 1) rfl dd_M_text_0 ?_
  refine mj_if_ne (pc := 1) (tgt := 22) dd_M_text_1 rfl (fun h1 => ?_) (fun h1 => ?_)
  · refine mj_aload_n (pc := 4) (i := 0) rfl dd_M_text_4 ?_
    refine mj_callVI (pc := 5) (idx := 236) (b := 48) (As := []) (st := []) sh_48 cl_12 ev_M_readCoast ql_M_236 rfl (Nat.le_of_ble_eq_true rfl) (T_M_readCoast (g := g) N e (by omega) M) dd_M_text_5 (fun q2 hq2 => ?_)
    refine mj_iconst (pc := 8) (v := (-1 : Int32)) (by decide) dd_M_text_8 ?_
    refine mj_icmp_ne (pc := 9) (tgt := 22) dd_M_text_9 rfl (fun h3 => ?_) (fun h3 => ?_)
    · refine mj_aload_n (pc := 12) (i := 0) rfl dd_M_text_12 ?_
      refine mj_iconst (pc := 13) (v := (0 : Int32)) (by decide) dd_M_text_13 ?_
      refine mj_putI (pc := 14) (b := 48) (k := 2) qf_M_97 sh_48 cl_12 rfl (by decide) (by decide) rfl rfl rfl dd_M_text_14 (fun M4 _ => ?_)
      refine mj_aload_n (pc := 17) (i := 0) rfl dd_M_text_17 ?_
      refine mj_callVI (pc := 18) (idx := 264) (b := 48) (As := []) (st := []) sh_48 cl_12 ev_M_takeCoast ql_M_264 rfl (Nat.le_of_ble_eq_true rfl) (T_M_takeCoast (g := g) N e (by omega) M4) dd_M_text_18 (fun q5 hq5 => ?_)
      exact mj_iret dd_M_text_21 rfl rfl
    · refine mj_L (L' := [(0, .ref 48), (1, .int x1)]) [0, 1] rfl ?_
      exact T_M_text_b22 (g := g) N e he x1 q2.2
  · refine mj_L (L' := [(0, .ref 48), (1, .int x1)]) [0, 1] rfl ?_
    exact T_M_text_b22 (g := g) N e he x1 M
def F_Coast_hasHouse (x1 : Int32) (M : mj_M) : Option (Int32 × mj_M) :=
    if x1 < (0) then
     (some ((0 : Int32), M))
     else
     (if (M 13 0) ≤ x1 then
     (some ((0 : Int32), M))
     else
     (some ((1 : Int32), M)))
set_option maxRecDepth 20000 in
theorem T_Coast_hasHouse {g : mj_G} : ∀ d, 1 ≤ d → ∀ (x1 : Int32) (M : mj_M), mj_Mt g (mj_qI g) d y_Coast_hasHouse c_Coast_hasHouse 2 (some .boolean) [.ref 13, .int x1] M (F_Coast_hasHouse x1 M) := by
  intro d hd x1 M
  obtain ⟨e, rfl⟩ : ∃ e, d = e + 1 := ⟨d - 1, by omega⟩
  have he : 0 ≤ e := by omega
  refine mj_met (by decide +kernel) (Nat.le_of_ble_eq_true rfl) ?_
  unfold F_Coast_hasHouse
  refine mj_L (L' := [(0, .ref 13), (1, .int x1)]) [0, 1] rfl ?_
  refine mj_iload_n (pc := 0) (i := 1) rfl dd_Coast_hasHouse_0 ?_
  refine mj_if_lt (pc := 1) (tgt := 16) dd_Coast_hasHouse_1 rfl (fun h1 => ?_) (fun h1 => ?_)
  · refine mj_iconst (pc := 16) (v := (0 : Int32)) (by decide) dd_Coast_hasHouse_16 ?_
    exact mj_zret (by decide) dd_Coast_hasHouse_17 rfl rfl
  · refine mj_iload_n (pc := 4) (i := 1) rfl dd_Coast_hasHouse_4 ?_
    refine mj_aload_n (pc := 5) (i := 0) rfl dd_Coast_hasHouse_5 ?_
    refine mj_getI (pc := 6) (b := 13) (k := 0) qf_Coast_30 sh_13 cl_0 rfl (by decide) rfl dd_Coast_hasHouse_6 ?_
    refine mj_icmp_ge (pc := 9) (tgt := 16) dd_Coast_hasHouse_9 rfl (fun h2 => ?_) (fun h2 => ?_)
    · refine mj_iconst (pc := 16) (v := (0 : Int32)) (by decide) dd_Coast_hasHouse_16 ?_
      exact mj_zret (by decide) dd_Coast_hasHouse_17 rfl rfl
    · refine mj_iconst (pc := 12) (v := (1 : Int32)) (by decide) dd_Coast_hasHouse_12 ?_
      refine mj_goto (pc := 13) (tgt := 17) dd_Coast_hasHouse_13 rfl ?_
      exact mj_zret (by decide) dd_Coast_hasHouse_17 rfl rfl
