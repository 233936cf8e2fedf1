/-! ===== functions and their proofs ===== -/
def F_LawReader_readClause_b97 (N : Nat) (M : mj_M) : Option (mj_M) :=
    (F_LawReader_write (121 : Int32) (0 : Int32) M).bind (fun q16 =>
     some q16)
set_option maxRecDepth 20000 in
theorem T_LawReader_readClause_b97 {g : mj_G} (N : Nat) (e : Nat) (he : 95 ≤ e) (M : mj_M) : mj_X g (mj_qV g) "WinterTellers$LawReader" c_LawReader_readClause 3 none e 97 [(0, .ref 6)] [] M (F_LawReader_readClause_b97 N M) := by
  unfold F_LawReader_readClause_b97
  refine mj_aload_n (pc := 97) (i := 0) rfl dd_LawReader_readClause_97 ?_
  refine mj_bipush (pc := 98) (v := (121 : Int32)) (by decide) dd_LawReader_readClause_98 ?_
  refine mj_iconst (pc := 100) (v := (0 : Int32)) (by decide) dd_LawReader_readClause_100 ?_
  refine mj_callVV (pc := 101) (idx := 57) (b := 6) (As := [.int (121 : Int32), .int (0 : Int32)]) (st := []) sh_6 cl_4 ev_LawReader_write ql_LawReader_57 rfl (Nat.le_of_ble_eq_true rfl) (T_LawReader_write (g := g) e (by omega) (121 : Int32) (0 : Int32) M) dd_LawReader_readClause_101 (fun q16 hq16 => ?_)
  exact mj_vret dd_LawReader_readClause_104 rfl rfl
def F_LawReader_readClause_b70 (N : Nat) (x2 : Int32) (M : mj_M) : Option (mj_M) :=
    (F_LawReader_readCondition N (F_LawReader_readUnit N 10) (0 : Int32) x2 M).bind (fun q12 =>
     (F_Tape_demand N (63 : Int32) q12).bind (fun q13 =>
     (F_LawReader_write (63 : Int32) (0 : Int32) q13).bind (fun q14 =>
     (F_LawReader_readSum N 10 (0 : Int32) q14).bind (fun q15 =>
     F_LawReader_readClause_b97 N q15))))
set_option maxRecDepth 20000 in
theorem T_LawReader_readClause_b70 {g : mj_G} (N : Nat) (e : Nat) (he : 95 ≤ e) (x2 : Int32) (M : mj_M) : mj_X g (mj_qV g) "WinterTellers$LawReader" c_LawReader_readClause 3 none e 70 [(0, .ref 6), (2, .int x2)] [] M (F_LawReader_readClause_b70 N x2 M) := by
  unfold F_LawReader_readClause_b70
  refine mj_aload_n (pc := 70) (i := 0) rfl dd_LawReader_readClause_70 ?_
  refine mj_iconst (pc := 71) (v := (0 : Int32)) (by decide) dd_LawReader_readClause_71 ?_
  refine mj_iload_n (pc := 72) (i := 2) rfl dd_LawReader_readClause_72 ?_
  refine mj_callVV (pc := 73) (idx := 53) (b := 6) (As := [.int (0 : Int32), .int x2]) (st := []) sh_6 cl_4 ev_LawReader_readCondition ql_LawReader_53 rfl (Nat.le_of_ble_eq_true rfl) (T_LawReader_readCondition (g := g) N (F_LawReader_readUnit N 10) 93 (by omega) (fun e he => T_LawReader_readUnit (g := g) N 10 e (by omega)) e (by omega) (0 : Int32) x2 M) dd_LawReader_readClause_73 (fun q12 hq12 => ?_)
  refine mj_aload_n (pc := 76) (i := 0) rfl dd_LawReader_readClause_76 ?_
  refine mj_getR (pc := 77) (b := 6) (k := 2) qf_LawReader_15 sh_6 cl_4 rfl (by decide) (r := 2) rfl dd_LawReader_readClause_77 ?_
  refine mj_bipush (pc := 80) (v := (63 : Int32)) (by decide) dd_LawReader_readClause_80 ?_
  refine mj_callVV (pc := 82) (idx := 39) (b := 2) (As := [.int (63 : Int32)]) (st := []) sh_2 cl_10 ev_Tape_demand ql_LawReader_39 rfl (Nat.le_of_ble_eq_true rfl) (T_Tape_demand (g := g) N e (by omega) (63 : Int32) q12) dd_LawReader_readClause_82 (fun q13 hq13 => ?_)
  refine mj_aload_n (pc := 85) (i := 0) rfl dd_LawReader_readClause_85 ?_
  refine mj_bipush (pc := 86) (v := (63 : Int32)) (by decide) dd_LawReader_readClause_86 ?_
  refine mj_iconst (pc := 88) (v := (0 : Int32)) (by decide) dd_LawReader_readClause_88 ?_
  refine mj_callVV (pc := 89) (idx := 57) (b := 6) (As := [.int (63 : Int32), .int (0 : Int32)]) (st := []) sh_6 cl_4 ev_LawReader_write ql_LawReader_57 rfl (Nat.le_of_ble_eq_true rfl) (T_LawReader_write (g := g) e (by omega) (63 : Int32) (0 : Int32) q13) dd_LawReader_readClause_89 (fun q14 hq14 => ?_)
  refine mj_aload_n (pc := 92) (i := 0) rfl dd_LawReader_readClause_92 ?_
  refine mj_iconst (pc := 93) (v := (0 : Int32)) (by decide) dd_LawReader_readClause_93 ?_
  refine mj_callVV (pc := 94) (idx := 47) (b := 6) (As := [.int (0 : Int32)]) (st := []) sh_6 cl_4 ev_LawReader_readSum ql_LawReader_47 rfl (Nat.le_of_ble_eq_true rfl) (T_LawReader_readSum (g := g) N 10 e (by omega) (0 : Int32) q14) dd_LawReader_readClause_94 (fun q15 hq15 => ?_)
  refine mj_L (L' := [(0, .ref 6)]) [0] rfl ?_
  exact T_LawReader_readClause_b97 (g := g) N e he q15
def F_LawReader_readClause_b53 (N : Nat) (x2 : Int32) (M : mj_M) : Option (mj_M) :=
    if x2 = (0) then
     (F_LawReader_readClause_b70 N x2 M)
     else
     ((F_Tape_peek N M).bind (fun q9 =>
     (F_LawReader_isComparison q9.1 q9.2).bind (fun q10 =>
     if q10.1 = (0) then
     (F_LawReader_readClause_b97 N q10.2)
     else
     (F_LawReader_readClause_b70 N x2 q10.2))))
set_option maxRecDepth 20000 in
theorem T_LawReader_readClause_b53 {g : mj_G} (N : Nat) (e : Nat) (he : 95 ≤ e) (x2 : Int32) (M : mj_M) : mj_X g (mj_qV g) "WinterTellers$LawReader" c_LawReader_readClause 3 none e 53 [(0, .ref 6), (2, .int x2)] [] M (F_LawReader_readClause_b53 N x2 M) := by
  unfold F_LawReader_readClause_b53
  refine mj_iload_n (pc := 53) (i := 2) rfl dd_LawReader_readClause_53 ?_
  refine mj_if_eq (pc := 54) (tgt := 70) dd_LawReader_readClause_54 rfl (fun h8 => ?_) (fun h8 => ?_)
  · refine mj_L (L' := [(0, .ref 6), (2, .int x2)]) [0, 1] rfl ?_
    exact T_LawReader_readClause_b70 (g := g) N e he x2 M
  · refine mj_aload_n (pc := 57) (i := 0) rfl dd_LawReader_readClause_57 ?_
    refine mj_getR (pc := 58) (b := 6) (k := 2) qf_LawReader_15 sh_6 cl_4 rfl (by decide) (r := 2) rfl dd_LawReader_readClause_58 ?_
    refine mj_callVI (pc := 61) (idx := 43) (b := 2) (As := []) (st := []) sh_2 cl_10 ev_Tape_peek ql_LawReader_43 rfl (Nat.le_of_ble_eq_true rfl) (T_Tape_peek (g := g) N e (by omega) M) dd_LawReader_readClause_61 (fun q9 hq9 => ?_)
    refine mj_callSI (pc := 64) (idx := 50) (As := [.int q9.1]) (st := []) es_LawReader_isComparison ql_LawReader_50 rfl (Nat.le_of_ble_eq_true rfl) (T_LawReader_isComparison (g := g) e (by omega) q9.1 q9.2) dd_LawReader_readClause_64 (fun q10 hq10 => ?_)
    refine mj_if_eq (pc := 67) (tgt := 97) dd_LawReader_readClause_67 rfl (fun h11 => ?_) (fun h11 => ?_)
    · refine mj_L (L' := [(0, .ref 6)]) [0] rfl ?_
      exact T_LawReader_readClause_b97 (g := g) N e he q10.2
    · refine mj_L (L' := [(0, .ref 6), (2, .int x2)]) [0, 1] rfl ?_
      exact T_LawReader_readClause_b70 (g := g) N e he x2 q10.2
def F_LawReader_readClause_b43 (N : Nat) (s0 : Int32) (M : mj_M) : Option (mj_M) :=
    if s0 = (0) then
     (F_LawReader_readClause_b53 N s0 M)
     else
     ((F_LawReader_readSum N 10 (0 : Int32) M).bind (fun q7 =>
     F_LawReader_readClause_b53 N s0 q7))
set_option maxRecDepth 20000 in
theorem T_LawReader_readClause_b43 {g : mj_G} (N : Nat) (e : Nat) (he : 95 ≤ e) (s0 : Int32) (M : mj_M) : mj_X g (mj_qV g) "WinterTellers$LawReader" c_LawReader_readClause 3 none e 43 [(0, .ref 6)] [.int s0] M (F_LawReader_readClause_b43 N s0 M) := by
  unfold F_LawReader_readClause_b43
  refine mj_istore_n (pc := 43) (by decide) dd_LawReader_readClause_43 ?_
  refine mj_L (L' := [(2, .int s0), (0, .ref 6)]) [0, 1] rfl ?_
  refine mj_iload_n (pc := 44) (i := 2) rfl dd_LawReader_readClause_44 ?_
  refine mj_if_eq (pc := 45) (tgt := 53) dd_LawReader_readClause_45 rfl (fun h6 => ?_) (fun h6 => ?_)
  · refine mj_L (L' := [(0, .ref 6), (2, .int s0)]) [1, 0] rfl ?_
    exact T_LawReader_readClause_b53 (g := g) N e he s0 M
  · refine mj_aload_n (pc := 48) (i := 0) rfl dd_LawReader_readClause_48 ?_
    refine mj_iconst (pc := 49) (v := (0 : Int32)) (by decide) dd_LawReader_readClause_49 ?_
    refine mj_callVV (pc := 50) (idx := 47) (b := 6) (As := [.int (0 : Int32)]) (st := []) sh_6 cl_4 ev_LawReader_readSum ql_LawReader_47 rfl (Nat.le_of_ble_eq_true rfl) (T_LawReader_readSum (g := g) N 10 e (by omega) (0 : Int32) M) dd_LawReader_readClause_50 (fun q7 hq7 => ?_)
    refine mj_L (L' := [(0, .ref 6), (2, .int s0)]) [1, 0] rfl ?_
    exact T_LawReader_readClause_b53 (g := g) N e he s0 q7
def F_LawReader_readClause_b42 (N : Nat) (M : mj_M) : Option (mj_M) :=
    F_LawReader_readClause_b43 N (0 : Int32) M
set_option maxRecDepth 20000 in
theorem T_LawReader_readClause_b42 {g : mj_G} (N : Nat) (e : Nat) (he : 95 ≤ e) (M : mj_M) : mj_X g (mj_qV g) "WinterTellers$LawReader" c_LawReader_readClause 3 none e 42 [(0, .ref 6)] [] M (F_LawReader_readClause_b42 N M) := by
  unfold F_LawReader_readClause_b42
  refine mj_iconst (pc := 42) (v := (0 : Int32)) (by decide) dd_LawReader_readClause_42 ?_
  refine mj_L (L' := [(0, .ref 6)]) [0] rfl ?_
  exact T_LawReader_readClause_b43 (g := g) N e he (0 : Int32) M
def F_LawReader_readClause (N : Nat) (M : mj_M) : Option (mj_M) :=
    (F_Tape_demand N (121 : Int32) M).bind (fun q1 =>
     (F_Tape_demand N (58 : Int32) q1).bind (fun q2 =>
     (F_Tape_peek N q2).bind (fun q3 =>
     if q3.1 = (33 : Int32) then
     (F_LawReader_readClause_b42 N q3.2)
     else
     (if q3.1 = (40 : Int32) then
     (F_LawReader_readClause_b42 N q3.2)
     else
     (F_LawReader_readClause_b43 N (1 : Int32) q3.2)))))
set_option maxRecDepth 20000 in
theorem T_LawReader_readClause {g : mj_G} (N : Nat) : ∀ d, 96 ≤ d → ∀ (M : mj_M), mj_Mt g (mj_qV g) d y_LawReader_readClause c_LawReader_readClause 3 none [.ref 6] M (F_LawReader_readClause N M) := by
  intro d hd M
  obtain ⟨e, rfl⟩ : ∃ e, d = e + 1 := ⟨d - 1, by omega⟩
  have he : 95 ≤ e := by omega
  refine mj_met (by decide +kernel) (Nat.le_of_ble_eq_true rfl) ?_
  unfold F_LawReader_readClause
  refine mj_L (L' := [(0, .ref 6)]) [0] rfl ?_
  refine mj_aload_n (pc := 0) (i := 0) rfl dd_LawReader_readClause_0 ?_
  refine mj_getR (pc := 1) (b := 6) (k := 2) qf_LawReader_15 sh_6 cl_4 rfl (by decide) (r := 2) rfl dd_LawReader_readClause_1 ?_
  refine mj_bipush (pc := 4) (v := (121 : Int32)) (by decide) dd_LawReader_readClause_4 ?_
  refine mj_callVV (pc := 6) (idx := 39) (b := 2) (As := [.int (121 : Int32)]) (st := []) sh_2 cl_10 ev_Tape_demand ql_LawReader_39 rfl (Nat.le_of_ble_eq_true rfl) (T_Tape_demand (g := g) N e (by omega) (121 : Int32) M) dd_LawReader_readClause_6 (fun q1 hq1 => ?_)
  refine mj_aload_n (pc := 9) (i := 0) rfl dd_LawReader_readClause_9 ?_
  refine mj_getR (pc := 10) (b := 6) (k := 2) qf_LawReader_15 sh_6 cl_4 rfl (by decide) (r := 2) rfl dd_LawReader_readClause_10 ?_
  refine mj_bipush (pc := 13) (v := (58 : Int32)) (by decide) dd_LawReader_readClause_13 ?_
  refine mj_callVV (pc := 15) (idx := 39) (b := 2) (As := [.int (58 : Int32)]) (st := []) sh_2 cl_10 ev_Tape_demand ql_LawReader_39 rfl (Nat.le_of_ble_eq_true rfl) (T_Tape_demand (g := g) N e (by omega) (58 : Int32) q1) dd_LawReader_readClause_15 (fun q2 hq2 => ?_)
  refine mj_aload_n (pc := 18) (i := 0) rfl dd_LawReader_readClause_18 ?_
  refine mj_getR (pc := 19) (b := 6) (k := 2) qf_LawReader_15 sh_6 cl_4 rfl (by decide) (r := 2) rfl dd_LawReader_readClause_19 ?_
  refine mj_callVI (pc := 22) (idx := 43) (b := 2) (As := []) (st := []) sh_2 cl_10 ev_Tape_peek ql_LawReader_43 rfl (Nat.le_of_ble_eq_true rfl) (T_Tape_peek (g := g) N e (by omega) q2) dd_LawReader_readClause_22 (fun q3 hq3 => ?_)
  refine mj_istore_n (pc := 25) (by decide) dd_LawReader_readClause_25 ?_
  refine mj_L (L' := [(1, .int q3.1), (0, .ref 6)]) [0, 1] rfl ?_
  refine mj_iload_n (pc := 26) (i := 1) rfl dd_LawReader_readClause_26 ?_
  refine mj_bipush (pc := 27) (v := (33 : Int32)) (by decide) dd_LawReader_readClause_27 ?_
  refine mj_icmp_eq (pc := 29) (tgt := 42) dd_LawReader_readClause_29 rfl (fun h4 => ?_) (fun h4 => ?_)
  · refine mj_L (L' := [(0, .ref 6)]) [1] rfl ?_
    exact T_LawReader_readClause_b42 (g := g) N e he q3.2
  · refine mj_iload_n (pc := 32) (i := 1) rfl dd_LawReader_readClause_32 ?_
    refine mj_bipush (pc := 33) (v := (40 : Int32)) (by decide) dd_LawReader_readClause_33 ?_
    refine mj_icmp_eq (pc := 35) (tgt := 42) dd_LawReader_readClause_35 rfl (fun h5 => ?_) (fun h5 => ?_)
    · refine mj_L (L' := [(0, .ref 6)]) [1] rfl ?_
      exact T_LawReader_readClause_b42 (g := g) N e he q3.2
    · refine mj_iconst (pc := 38) (v := (1 : Int32)) (by decide) dd_LawReader_readClause_38 ?_
      refine mj_goto (pc := 39) (tgt := 43) dd_LawReader_readClause_39 rfl ?_
      refine mj_L (L' := [(0, .ref 6)]) [1] rfl ?_
      exact T_LawReader_readClause_b43 (g := g) N e he (1 : Int32) q3.2
def F_Tape_demandEnd (N : Nat) (M : mj_M) : Option (mj_M) :=
    (F_Tape_peek N M).bind (fun q1 =>
     if q1.1 = (0) then
     (some q1.2)
     else
     ((F_Tape_fail (q1.2 2 2) q1.2).bind (fun q3 =>
     some q3)))
set_option maxRecDepth 20000 in
theorem T_Tape_demandEnd {g : mj_G} (N : Nat) : ∀ d, 3 ≤ d → ∀ (M : mj_M), mj_Mt g (mj_qV g) d y_Tape_demandEnd c_Tape_demandEnd 1 none [.ref 2] M (F_Tape_demandEnd N M) := by
  intro d hd M
  obtain ⟨e, rfl⟩ : ∃ e, d = e + 1 := ⟨d - 1, by omega⟩
  have he : 2 ≤ e := by omega
  refine mj_met (by decide +kernel) (Nat.le_of_ble_eq_true rfl) ?_
  unfold F_Tape_demandEnd
  refine mj_L (L' := [(0, .ref 2)]) [0] rfl ?_
  refine mj_aload_n (pc := 0) (i := 0) rfl dd_Tape_demandEnd_0 ?_
  refine mj_callVI (pc := 1) (idx := 28) (b := 2) (As := []) (st := []) sh_2 cl_10 ev_Tape_peek ql_Tape_28 rfl (Nat.le_of_ble_eq_true rfl) (T_Tape_peek (g := g) N e (by omega) M) dd_Tape_demandEnd_1 (fun q1 hq1 => ?_)
  refine mj_if_eq (pc := 4) (tgt := 15) dd_Tape_demandEnd_4 rfl (fun h2 => ?_) (fun h2 => ?_)
  · exact mj_vret dd_Tape_demandEnd_15 rfl rfl
  · refine mj_aload_n (pc := 7) (i := 0) rfl dd_Tape_demandEnd_7 ?_
    refine mj_aload_n (pc := 8) (i := 0) rfl dd_Tape_demandEnd_8 ?_
    refine mj_getI (pc := 9) (b := 2) (k := 2) qf_Tape_19 sh_2 cl_10 rfl (by decide) rfl dd_Tape_demandEnd_9 ?_
    refine mj_callVV (pc := 12) (idx := 32) (b := 2) (As := [.int (q1.2 2 2)]) (st := []) sh_2 cl_10 ev_Tape_fail ql_Tape_32 rfl (Nat.le_of_ble_eq_true rfl) (T_Tape_fail (g := g) e (by omega) (q1.2 2 2) q1.2) dd_Tape_demandEnd_12 (fun q3 hq3 => ?_)
    exact mj_vret dd_Tape_demandEnd_15 rfl rfl
def F_LawReader_read_b47 (N : Nat) (M : mj_M) : Option (Int32 × mj_M) :=
    (F_Tape_demandEnd N M).bind (fun q8 =>
     some (q8 2 3, q8))
set_option maxRecDepth 20000 in
theorem T_LawReader_read_b47 {g : mj_G} (N : Nat) (e : Nat) (he : 96 ≤ e) (M : mj_M) : mj_X g (mj_qI g) "WinterTellers$LawReader" c_LawReader_read 2 (some .int) e 47 [(0, .ref 6)] [] M (F_LawReader_read_b47 N M) := by
  unfold F_LawReader_read_b47
  refine mj_aload_n (pc := 47) (i := 0) rfl dd_LawReader_read_47 ?_
  refine mj_getR (pc := 48) (b := 6) (k := 2) qf_LawReader_15 sh_6 cl_4 rfl (by decide) (r := 2) rfl dd_LawReader_read_48 ?_
  refine mj_callVV (pc := 51) (idx := 33) (b := 2) (As := []) (st := []) sh_2 cl_10 ev_Tape_demandEnd ql_LawReader_33 rfl (Nat.le_of_ble_eq_true rfl) (T_Tape_demandEnd (g := g) N e (by omega) M) dd_LawReader_read_51 (fun q8 hq8 => ?_)
  refine mj_aload_n (pc := 54) (i := 0) rfl dd_LawReader_read_54 ?_
  refine mj_getR (pc := 55) (b := 6) (k := 2) qf_LawReader_15 sh_6 cl_4 rfl (by decide) (r := 2) rfl dd_LawReader_read_55 ?_
  refine mj_getI (pc := 58) (b := 2) (k := 3) qf_LawReader_36 sh_2 cl_10 rfl (by decide) rfl dd_LawReader_read_58 ?_
  exact mj_iret dd_LawReader_read_61 rfl rfl
def F_LawReader_read_b18 (N : Nat) : Nat → Int32 → mj_M → Option (Int32 × mj_M)
  | 0, _, _ => none
  | n + 1, x1, M =>
    if (240 : Int32) ≤ x1 then
     (F_LawReader_read_b47 N M)
     else
     ((F_Tape_takes N (59 : Int32) M).bind (fun q5 =>
     if q5.1 = (0) then
     (F_LawReader_read_b47 N q5.2)
     else
     ((F_LawReader_readClause N q5.2).bind (fun q7 =>
     F_LawReader_read_b18 N n (x1 + (1 : Int32)) q7))))
set_option maxRecDepth 20000 in
theorem T_LawReader_read_b18 {g : mj_G} (N : Nat) (e : Nat) (he : 96 ≤ e) : ∀ (n : Nat) (x1 : Int32) (M : mj_M), mj_X g (mj_qI g) "WinterTellers$LawReader" c_LawReader_read 2 (some .int) e 18 [(0, .ref 6), (1, .int x1)] [] M (F_LawReader_read_b18 N n x1 M) := by
  intro n
  induction n with
  | zero => intro x1 M; exact mj_none
  | succ n ih =>
    intro x1 M
    rw [F_LawReader_read_b18]
    refine mj_iload_n (pc := 18) (i := 1) rfl dd_LawReader_read_18 ?_
    refine mj_sipush (pc := 19) (v := (240 : Int32)) (by decide) dd_LawReader_read_19 ?_
    refine mj_icmp_ge (pc := 22) (tgt := 47) dd_LawReader_read_22 rfl (fun h4 => ?_) (fun h4 => ?_)
    · refine mj_L (L' := [(0, .ref 6)]) [0] rfl ?_
      exact T_LawReader_read_b47 (g := g) N e he M
    · refine mj_aload_n (pc := 25) (i := 0) rfl dd_LawReader_read_25 ?_
      refine mj_getR (pc := 26) (b := 6) (k := 2) qf_LawReader_15 sh_6 cl_4 rfl (by decide) (r := 2) rfl dd_LawReader_read_26 ?_
      refine mj_bipush (pc := 29) (v := (59 : Int32)) (by decide) dd_LawReader_read_29 ?_
      refine mj_callVI (pc := 31) (idx := 29) (b := 2) (As := [.int (59 : Int32)]) (st := []) sh_2 cl_10 ev_Tape_takes ql_LawReader_29 rfl (Nat.le_of_ble_eq_true rfl) (T_Tape_takes (g := g) N e (by omega) (59 : Int32) M) dd_LawReader_read_31 (fun q5 hq5 => ?_)
      refine mj_if_eq (pc := 34) (tgt := 47) dd_LawReader_read_34 rfl (fun h6 => ?_) (fun h6 => ?_)
      · refine mj_L (L' := [(0, .ref 6)]) [0] rfl ?_
        exact T_LawReader_read_b47 (g := g) N e he q5.2
      · refine mj_aload_n (pc := 37) (i := 0) rfl dd_LawReader_read_37 ?_
        refine mj_callVV (pc := 38) (idx := 26) (b := 6) (As := []) (st := []) sh_6 cl_4 ev_LawReader_readClause ql_LawReader_26 rfl (Nat.le_of_ble_eq_true rfl) (T_LawReader_readClause (g := g) N e (by omega) q5.2) dd_LawReader_read_38 (fun q7 hq7 => ?_)
        refine mj_iinc (pc := 41) (i := 1) (z := (1 : Int32)) rfl (by decide) (by decide) dd_LawReader_read_41 ?_
        refine mj_L (L' := [(1, .int (x1 + (1 : Int32))), (0, .ref 6)]) [0, 1] rfl ?_
        refine mj_goto (pc := 44) (tgt := 18) dd_LawReader_read_44 rfl ?_
        refine mj_L (L' := [(0, .ref 6), (1, .int (x1 + (1 : Int32)))]) [1, 0] rfl ?_
        exact ih (x1 + (1 : Int32)) q7
def F_LawReader_read (N : Nat) (M : mj_M) : Option (Int32 × mj_M) :=
    (F_Tape_rewind M).bind (fun q1 =>
     mj_lt (mj_u q1 6 1 (0 : Int32)) (fun M2 =>
     (F_LawReader_readClause N M2).bind (fun q3 =>
     F_LawReader_read_b18 N N (0 : Int32) q3)))
set_option maxRecDepth 20000 in
theorem T_LawReader_read {g : mj_G} (N : Nat) : ∀ d, 97 ≤ d → ∀ (M : mj_M), mj_Mt g (mj_qI g) d y_LawReader_read c_LawReader_read 2 (some .int) [.ref 6] M (F_LawReader_read N M) := by
  intro d hd M
  obtain ⟨e, rfl⟩ : ∃ e, d = e + 1 := ⟨d - 1, by omega⟩
  have he : 96 ≤ e := by omega
  refine mj_met (by decide +kernel) (Nat.le_of_ble_eq_true rfl) ?_
  unfold F_LawReader_read
  refine mj_L (L' := [(0, .ref 6)]) [0] rfl ?_
  refine mj_aload_n (pc := 0) (i := 0) rfl dd_LawReader_read_0 ?_
  refine mj_getR (pc := 1) (b := 6) (k := 2) qf_LawReader_15 sh_6 cl_4 rfl (by decide) (r := 2) rfl dd_LawReader_read_1 ?_
  refine mj_callVV (pc := 4) (idx := 19) (b := 2) (As := []) (st := []) sh_2 cl_10 ev_Tape_rewind ql_LawReader_19 rfl (Nat.le_of_ble_eq_true rfl) (T_Tape_rewind (g := g) e (by omega) M) dd_LawReader_read_4 (fun q1 hq1 => ?_)
  refine mj_aload_n (pc := 7) (i := 0) rfl dd_LawReader_read_7 ?_
  refine mj_iconst (pc := 8) (v := (0 : Int32)) (by decide) dd_LawReader_read_8 ?_
  refine mj_putI (pc := 9) (b := 6) (k := 1) qf_LawReader_22 sh_6 cl_4 rfl (by decide) (by decide) rfl rfl rfl dd_LawReader_read_9 (fun M2 _ => ?_)
  refine mj_aload_n (pc := 12) (i := 0) rfl dd_LawReader_read_12 ?_
  refine mj_callVV (pc := 13) (idx := 26) (b := 6) (As := []) (st := []) sh_6 cl_4 ev_LawReader_readClause ql_LawReader_26 rfl (Nat.le_of_ble_eq_true rfl) (T_LawReader_readClause (g := g) N e (by omega) M2) dd_LawReader_read_13 (fun q3 hq3 => ?_)
  refine mj_iconst (pc := 16) (v := (0 : Int32)) (by decide) dd_LawReader_read_16 ?_
  refine mj_istore_n (pc := 17) (by decide) dd_LawReader_read_17 ?_
  refine mj_L (L' := [(1, .int (0 : Int32)), (0, .ref 6)]) [0, 1] rfl ?_
  refine mj_L (L' := [(0, .ref 6), (1, .int (0 : Int32))]) [1, 0] rfl ?_
  exact T_LawReader_read_b18 (g := g) N e he N (0 : Int32) q3
def F_CoastReader_takeItemsWithout (x1 : Int32) (x2 : Int32) (M : mj_M) : Option (mj_M) :=
    mj_ac x1 x1 (x2 - x1) (([20, 63, 0, 1, 0, 3, 2, 4, 2, 0] : List Int32).length) 10 (mj_lt (mj_a M 5 (va_cpy (fun j => ([20, 63, 0, 1, 0, 3, 2, 4, 2, 0] : List Int32).getD j 0) (M 5) x1.toNatClampNeg x1.toNatClampNeg (x2 - x1).toNatClampNeg)) (fun M1 =>
     some M1))
set_option maxRecDepth 20000 in
theorem T_CoastReader_takeItemsWithout {g : mj_G} : ∀ d, 1 ≤ d → ∀ (x1 : Int32) (x2 : Int32) (M : mj_M), mj_Mt g (mj_qV g) d y_CoastReader_takeItemsWithout c_CoastReader_takeItemsWithout 3 none [.ref 4, .int x1, .int x2] M (F_CoastReader_takeItemsWithout x1 x2 M) := by
  intro d hd x1 x2 M
  obtain ⟨e, rfl⟩ : ∃ e, d = e + 1 := ⟨d - 1, by omega⟩
  have he : 0 ≤ e := by omega
  refine mj_met (by decide +kernel) (Nat.le_of_ble_eq_true rfl) ?_
  unfold F_CoastReader_takeItemsWithout
  refine mj_L (L' := [(0, .ref 4), (1, .int x1), (2, .int x2)]) [0, 1, 2] rfl ?_
  refine mj_gets (pc := 0) (i := 3) rfl qf_CoastReader_88 dd_CoastReader_takeItemsWithout_0 ?_
  refine mj_iload_n (pc := 3) (i := 1) rfl dd_CoastReader_takeItemsWithout_3 ?_
  refine mj_aload_n (pc := 4) (i := 0) rfl dd_CoastReader_takeItemsWithout_4 ?_
  refine mj_getR (pc := 5) (b := 4) (k := 2) qf_CoastReader_18 sh_4 cl_1 rfl (by decide) (r := 5) rfl dd_CoastReader_takeItemsWithout_5 ?_
  refine mj_iload_n (pc := 8) (i := 1) rfl dd_CoastReader_takeItemsWithout_8 ?_
  refine mj_iload_n (pc := 9) (i := 2) rfl dd_CoastReader_takeItemsWithout_9 ?_
  refine mj_iload_n (pc := 10) (i := 1) rfl dd_CoastReader_takeItemsWithout_10 ?_
  refine mj_isub (pc := 11) dd_CoastReader_takeItemsWithout_11 ?_
  refine mj_copyS (pc := 12) (idx := 91) (i := 3) rfl sh_5 qm_CoastReader_91 (Nat.le_of_ble_eq_true rfl) dd_CoastReader_takeItemsWithout_12 (fun M1 _ => ?_)
  exact mj_vret dd_CoastReader_takeItemsWithout_15 rfl rfl
def F_CoastReader_keepRules (M : mj_M) : Option (mj_M) :=
    mj_lt (mj_u M 41 2 (M 5 0)) (fun M1 =>
     mj_lt (mj_u M1 41 3 (M1 5 1)) (fun M2 =>
     mj_lt (mj_u M2 41 4 (M2 5 2)) (fun M3 =>
     mj_lt (mj_u M3 41 5 (M3 5 3)) (fun M4 =>
     some M4))))
set_option maxRecDepth 20000 in
theorem T_CoastReader_keepRules {g : mj_G} : ∀ d, 1 ≤ d → ∀ (M : mj_M), mj_Mt g (mj_qV g) d y_CoastReader_keepRules c_CoastReader_keepRules 1 none [.ref 4] M (F_CoastReader_keepRules M) := by
  intro d hd M
  obtain ⟨e, rfl⟩ : ∃ e, d = e + 1 := ⟨d - 1, by omega⟩
  have he : 0 ≤ e := by omega
  refine mj_met (by decide +kernel) (Nat.le_of_ble_eq_true rfl) ?_
  unfold F_CoastReader_keepRules
  refine mj_L (L' := [(0, .ref 4)]) [0] rfl ?_
  refine mj_aload_n (pc := 0) (i := 0) rfl dd_CoastReader_keepRules_0 ?_
  refine mj_getR (pc := 1) (b := 4) (k := 0) qf_CoastReader_12 sh_4 cl_1 rfl (by decide) (r := 41) rfl dd_CoastReader_keepRules_1 ?_
  refine mj_aload_n (pc := 4) (i := 0) rfl dd_CoastReader_keepRules_4 ?_
  refine mj_getR (pc := 5) (b := 4) (k := 2) qf_CoastReader_18 sh_4 cl_1 rfl (by decide) (r := 5) rfl dd_CoastReader_keepRules_5 ?_
  refine mj_iconst (pc := 8) (v := (0 : Int32)) (by decide) dd_CoastReader_keepRules_8 ?_
  refine mj_ialdK (pc := 9) (j := 0) sh_5 (by decide) rfl dd_CoastReader_keepRules_9 ?_
  refine mj_putI (pc := 10) (b := 41) (k := 2) qf_CoastReader_114 sh_41 cl_0 rfl (by decide) (by decide) rfl rfl rfl dd_CoastReader_keepRules_10 (fun M1 _ => ?_)
  refine mj_aload_n (pc := 13) (i := 0) rfl dd_CoastReader_keepRules_13 ?_
  refine mj_getR (pc := 14) (b := 4) (k := 0) qf_CoastReader_12 sh_4 cl_1 rfl (by decide) (r := 41) rfl dd_CoastReader_keepRules_14 ?_
  refine mj_aload_n (pc := 17) (i := 0) rfl dd_CoastReader_keepRules_17 ?_
  refine mj_getR (pc := 18) (b := 4) (k := 2) qf_CoastReader_18 sh_4 cl_1 rfl (by decide) (r := 5) rfl dd_CoastReader_keepRules_18 ?_
  refine mj_iconst (pc := 21) (v := (1 : Int32)) (by decide) dd_CoastReader_keepRules_21 ?_
  refine mj_ialdK (pc := 22) (j := 1) sh_5 (by decide) rfl dd_CoastReader_keepRules_22 ?_
  refine mj_putI (pc := 23) (b := 41) (k := 3) qf_CoastReader_117 sh_41 cl_0 rfl (by decide) (by decide) rfl rfl rfl dd_CoastReader_keepRules_23 (fun M2 _ => ?_)
  refine mj_aload_n (pc := 26) (i := 0) rfl dd_CoastReader_keepRules_26 ?_
  refine mj_getR (pc := 27) (b := 4) (k := 0) qf_CoastReader_12 sh_4 cl_1 rfl (by decide) (r := 41) rfl dd_CoastReader_keepRules_27 ?_
  refine mj_aload_n (pc := 30) (i := 0) rfl dd_CoastReader_keepRules_30 ?_
  refine mj_getR (pc := 31) (b := 4) (k := 2) qf_CoastReader_18 sh_4 cl_1 rfl (by decide) (r := 5) rfl dd_CoastReader_keepRules_31 ?_
  refine mj_iconst (pc := 34) (v := (2 : Int32)) (by decide) dd_CoastReader_keepRules_34 ?_
  refine mj_ialdK (pc := 35) (j := 2) sh_5 (by decide) rfl dd_CoastReader_keepRules_35 ?_
  refine mj_putI (pc := 36) (b := 41) (k := 4) qf_CoastReader_59 sh_41 cl_0 rfl (by decide) (by decide) rfl rfl rfl dd_CoastReader_keepRules_36 (fun M3 _ => ?_)
  refine mj_aload_n (pc := 39) (i := 0) rfl dd_CoastReader_keepRules_39 ?_
  refine mj_getR (pc := 40) (b := 4) (k := 0) qf_CoastReader_12 sh_4 cl_1 rfl (by decide) (r := 41) rfl dd_CoastReader_keepRules_40 ?_
  refine mj_aload_n (pc := 43) (i := 0) rfl dd_CoastReader_keepRules_43 ?_
  refine mj_getR (pc := 44) (b := 4) (k := 2) qf_CoastReader_18 sh_4 cl_1 rfl (by decide) (r := 5) rfl dd_CoastReader_keepRules_44 ?_
  refine mj_iconst (pc := 47) (v := (3 : Int32)) (by decide) dd_CoastReader_keepRules_47 ?_
  refine mj_ialdK (pc := 48) (j := 3) sh_5 (by decide) rfl dd_CoastReader_keepRules_48 ?_
  refine mj_putI (pc := 49) (b := 41) (k := 5) qf_CoastReader_120 sh_41 cl_0 rfl (by decide) (by decide) rfl rfl rfl dd_CoastReader_keepRules_49 (fun M4 _ => ?_)
  exact mj_vret dd_CoastReader_keepRules_52 rfl rfl
def F_CoastReader_itemAt_b12 (N : Nat) : Nat → Int32 → Int32 → Int32 → Int32 → mj_M → Option (Int32 × mj_M)
  | 0, _, _, _, _, _ => none
  | n + 1, x2, x3, x4, x5, M =>
    if x2 ≤ x5 then
     (some ((-1 : Int32), M))
     else
     (mj_ck x5 ([98, 109, 97, 111, 107, 99, 119, 108, 107, 114] : List Int32).length (
     if (([98, 109, 97, 111, 107, 99, 119, 108, 107, 114] : List Int32).getD x5.toNatClampNeg 0) = x4 then
     (if ((x3 >>> (x5 &&& 31)) &&& (1 : Int32)) = (0) then
     (some (x5, M))
     else
     (F_CoastReader_itemAt_b12 N n x2 x3 x4 (x5 + (1 : Int32)) M))
     else
     (F_CoastReader_itemAt_b12 N n x2 x3 x4 (x5 + (1 : Int32)) M)))
set_option maxRecDepth 20000 in
theorem T_CoastReader_itemAt_b12 {g : mj_G} (N : Nat) (e : Nat) (he : 2 ≤ e) : ∀ (n : Nat) (x2 : Int32) (x3 : Int32) (x4 : Int32) (x5 : Int32) (M : mj_M), mj_X g (mj_qI g) "WinterTellers$CoastReader" c_CoastReader_itemAt 6 (some .int) e 12 [(2, .int x2), (3, .int x3), (4, .int x4), (5, .int x5)] [] M (F_CoastReader_itemAt_b12 N n x2 x3 x4 x5 M) := by
  intro n
  induction n with
  | zero => intro x2 x3 x4 x5 M; exact mj_none
  | succ n ih =>
    intro x2 x3 x4 x5 M
    rw [F_CoastReader_itemAt_b12]
    refine mj_iload (pc := 12) (i := 5) rfl dd_CoastReader_itemAt_12 ?_
    refine mj_iload_n (pc := 14) (i := 2) rfl dd_CoastReader_itemAt_14 ?_
    refine mj_icmp_ge (pc := 15) (tgt := 47) dd_CoastReader_itemAt_15 rfl (fun h2 => ?_) (fun h2 => ?_)
    · refine mj_iconst (pc := 47) (v := (-1 : Int32)) (by decide) dd_CoastReader_itemAt_47 ?_
      exact mj_iret dd_CoastReader_itemAt_48 rfl rfl
    · refine mj_gets (pc := 18) (i := 0) rfl qf_CoastReader_110 dd_CoastReader_itemAt_18 ?_
      refine mj_iload (pc := 21) (i := 5) rfl dd_CoastReader_itemAt_21 ?_
      refine mj_stC (pc := 23) (i := 0) rfl dd_CoastReader_itemAt_23 ?_
      refine mj_iload (pc := 24) (i := 4) rfl dd_CoastReader_itemAt_24 ?_
      refine mj_icmp_ne (pc := 26) (tgt := 41) dd_CoastReader_itemAt_26 rfl (fun h3 => ?_) (fun h3 => ?_)
      · refine mj_iload_n (pc := 29) (i := 3) rfl dd_CoastReader_itemAt_29 ?_
        refine mj_iload (pc := 30) (i := 5) rfl dd_CoastReader_itemAt_30 ?_
        refine mj_ishr (pc := 32) dd_CoastReader_itemAt_32 ?_
        refine mj_iconst (pc := 33) (v := (1 : Int32)) (by decide) dd_CoastReader_itemAt_33 ?_
        refine mj_iand (pc := 34) dd_CoastReader_itemAt_34 ?_
        refine mj_if_ne (pc := 35) (tgt := 41) dd_CoastReader_itemAt_35 rfl (fun h4 => ?_) (fun h4 => ?_)
        · refine mj_iload (pc := 38) (i := 5) rfl dd_CoastReader_itemAt_38 ?_
          exact mj_iret dd_CoastReader_itemAt_40 rfl rfl
        · refine mj_iinc (pc := 41) (i := 5) (z := (1 : Int32)) rfl (by decide) (by decide) dd_CoastReader_itemAt_41 ?_
          refine mj_L (L' := [(5, .int (x5 + (1 : Int32))), (2, .int x2), (3, .int x3), (4, .int x4)]) [0, 1, 2, 3] rfl ?_
          refine mj_goto (pc := 44) (tgt := 12) dd_CoastReader_itemAt_44 rfl ?_
          refine mj_L (L' := [(2, .int x2), (3, .int x3), (4, .int x4), (5, .int (x5 + (1 : Int32)))]) [1, 2, 3, 0] rfl ?_
          exact ih x2 x3 x4 (x5 + (1 : Int32)) M
      · refine mj_iinc (pc := 41) (i := 5) (z := (1 : Int32)) rfl (by decide) (by decide) dd_CoastReader_itemAt_41 ?_
        refine mj_L (L' := [(5, .int (x5 + (1 : Int32))), (2, .int x2), (3, .int x3), (4, .int x4)]) [0, 1, 2, 3] rfl ?_
        refine mj_goto (pc := 44) (tgt := 12) dd_CoastReader_itemAt_44 rfl ?_
        refine mj_L (L' := [(2, .int x2), (3, .int x3), (4, .int x4), (5, .int (x5 + (1 : Int32)))]) [1, 2, 3, 0] rfl ?_
        exact ih x2 x3 x4 (x5 + (1 : Int32)) M
def F_CoastReader_itemAt (N : Nat) (x1 : Int32) (x2 : Int32) (x3 : Int32) (M : mj_M) : Option (Int32 × mj_M) :=
    (F_Tape_peek N M).bind (fun q1 =>
     F_CoastReader_itemAt_b12 N N x2 x3 q1.1 x1 q1.2)
set_option maxRecDepth 20000 in
theorem T_CoastReader_itemAt {g : mj_G} (N : Nat) : ∀ d, 3 ≤ d → ∀ (x1 : Int32) (x2 : Int32) (x3 : Int32) (M : mj_M), mj_Mt g (mj_qI g) d y_CoastReader_itemAt c_CoastReader_itemAt 6 (some .int) [.ref 4, .int x1, .int x2, .int x3] M (F_CoastReader_itemAt N x1 x2 x3 M) := by
  intro d hd x1 x2 x3 M
  obtain ⟨e, rfl⟩ : ∃ e, d = e + 1 := ⟨d - 1, by omega⟩
  have he : 2 ≤ e := by omega
  refine mj_met (by decide +kernel) (Nat.le_of_ble_eq_true rfl) ?_
  unfold F_CoastReader_itemAt
  refine mj_L (L' := [(0, .ref 4), (1, .int x1), (2, .int x2), (3, .int x3)]) [0, 1, 2, 3] rfl ?_
  refine mj_aload_n (pc := 0) (i := 0) rfl dd_CoastReader_itemAt_0 ?_
  refine mj_getR (pc := 1) (b := 4) (k := 1) qf_CoastReader_22 sh_4 cl_1 rfl (by decide) (r := 2) rfl dd_CoastReader_itemAt_1 ?_
  refine mj_callVI (pc := 4) (idx := 72) (b := 2) (As := []) (st := []) sh_2 cl_10 ev_Tape_peek ql_CoastReader_72 rfl (Nat.le_of_ble_eq_true rfl) (T_Tape_peek (g := g) N e (by omega) M) dd_CoastReader_itemAt_4 (fun q1 hq1 => ?_)
  refine mj_istore (pc := 7) (by decide) dd_CoastReader_itemAt_7 ?_
  refine mj_L (L' := [(4, .int q1.1), (1, .int x1), (2, .int x2), (3, .int x3)]) [0, 2, 3, 4] rfl ?_
  refine mj_iload_n (pc := 9) (i := 1) rfl dd_CoastReader_itemAt_9 ?_
  refine mj_istore (pc := 10) (by decide) dd_CoastReader_itemAt_10 ?_
  refine mj_L (L' := [(5, .int x1), (4, .int q1.1), (2, .int x2), (3, .int x3)]) [0, 1, 3, 4] rfl ?_
  refine mj_L (L' := [(2, .int x2), (3, .int x3), (4, .int q1.1), (5, .int x1)]) [2, 3, 1, 0] rfl ?_
  exact T_CoastReader_itemAt_b12 (g := g) N e he N x2 x3 q1.1 x1 q1.2
def F_CoastReader_readItems_b24 (N : Nat) : Nat → Int32 → Int32 → Int32 → Int32 → mj_M → Option (mj_M)
  | 0, _, _, _, _, _ => none
  | n + 1, x1, x2, x3, x4, M =>
    if x2 ≤ x4 then
     (some M)
     else
     ((F_CoastReader_itemAt N x1 x2 x3 M).bind (fun q4 =>
     if q4.1 = (-1 : Int32) then
     (some q4.2)
     else
     (mj_lt (mj_u q4.2 2 2 ((q4.2 2 2) + (1 : Int32))) (fun M6 =>
     mj_lt (x3 ||| ((1 : Int32) <<< (q4.1 &&& 31))) (fun v7 =>
     mj_ck q4.1 ([0, 0, 0, 0, 0, 0, 0, 1, 0, 0] : List Int32).length (
     mj_ck q4.1 ([99, 63, 5, 9, 63, 9, 9, 9, 9, 1] : List Int32).length (
     (F_Tape_number N (2 : Int32) (([0, 0, 0, 0, 0, 0, 0, 1, 0, 0] : List Int32).getD q4.1.toNatClampNeg 0) (([99, 63, 5, 9, 63, 9, 9, 9, 9, 1] : List Int32).getD q4.1.toNatClampNeg 0) M6).bind (fun q8 =>
     mj_ck q4.1 10 (mj_lt (mj_u q8.2 5 q4.1.toNatClampNeg q8.1) (fun M9 =>
     F_CoastReader_readItems_b24 N n x1 x2 v7 (x4 + (1 : Int32)) M9))))))))))
set_option maxRecDepth 20000 in
theorem T_CoastReader_readItems_b24 {g : mj_G} (N : Nat) (e : Nat) (he : 3 ≤ e) : ∀ (n : Nat) (x1 : Int32) (x2 : Int32) (x3 : Int32) (x4 : Int32) (M : mj_M), mj_X g (mj_qV g) "WinterTellers$CoastReader" c_CoastReader_readItems 6 none e 24 [(0, .ref 4), (1, .int x1), (2, .int x2), (3, .int x3), (4, .int x4)] [] M (F_CoastReader_readItems_b24 N n x1 x2 x3 x4 M) := by
  intro n
  induction n with
  | zero => intro x1 x2 x3 x4 M; exact mj_none
  | succ n ih =>
    intro x1 x2 x3 x4 M
    rw [F_CoastReader_readItems_b24]
    refine mj_iload (pc := 24) (i := 4) rfl dd_CoastReader_readItems_24 ?_
    refine mj_iload_n (pc := 26) (i := 2) rfl dd_CoastReader_readItems_26 ?_
    refine mj_icmp_ge (pc := 27) (tgt := 99) dd_CoastReader_readItems_27 rfl (fun h3 => ?_) (fun h3 => ?_)
    · exact mj_vret dd_CoastReader_readItems_99 rfl rfl
    · refine mj_aload_n (pc := 30) (i := 0) rfl dd_CoastReader_readItems_30 ?_
      refine mj_iload_n (pc := 31) (i := 1) rfl dd_CoastReader_readItems_31 ?_
      refine mj_iload_n (pc := 32) (i := 2) rfl dd_CoastReader_readItems_32 ?_
      refine mj_iload_n (pc := 33) (i := 3) rfl dd_CoastReader_readItems_33 ?_
      refine mj_callVI (pc := 34) (idx := 97) (b := 4) (As := [.int x1, .int x2, .int x3]) (st := []) sh_4 cl_1 ev_CoastReader_itemAt ql_CoastReader_97 rfl (Nat.le_of_ble_eq_true rfl) (T_CoastReader_itemAt (g := g) N e (by omega) x1 x2 x3 M) dd_CoastReader_readItems_34 (fun q4 hq4 => ?_)
      refine mj_istore (pc := 37) (by decide) dd_CoastReader_readItems_37 ?_
      refine mj_L (L' := [(5, .int q4.1), (0, .ref 4), (1, .int x1), (2, .int x2), (3, .int x3), (4, .int x4)]) [0, 1, 2, 3, 4, 5] rfl ?_
      refine mj_iload (pc := 39) (i := 5) rfl dd_CoastReader_readItems_39 ?_
      refine mj_iconst (pc := 41) (v := (-1 : Int32)) (by decide) dd_CoastReader_readItems_41 ?_
      refine mj_icmp_ne (pc := 42) (tgt := 46) dd_CoastReader_readItems_42 rfl (fun h5 => ?_) (fun h5 => ?_)
      · exact mj_vret dd_CoastReader_readItems_45 rfl rfl
      · refine mj_aload_n (pc := 46) (i := 0) rfl dd_CoastReader_readItems_46 ?_
        refine mj_getR (pc := 47) (b := 4) (k := 1) qf_CoastReader_22 sh_4 cl_1 rfl (by decide) (r := 2) rfl dd_CoastReader_readItems_47 ?_
        refine mj_dup (pc := 50) rfl dd_CoastReader_readItems_50 ?_
        refine mj_getI (pc := 51) (b := 2) (k := 2) qf_CoastReader_85 sh_2 cl_10 rfl (by decide) rfl dd_CoastReader_readItems_51 ?_
        refine mj_iconst (pc := 54) (v := (1 : Int32)) (by decide) dd_CoastReader_readItems_54 ?_
        refine mj_iadd (pc := 55) dd_CoastReader_readItems_55 ?_
        refine mj_putI (pc := 56) (b := 2) (k := 2) qf_CoastReader_85 sh_2 cl_10 rfl (by decide) (by decide) rfl rfl rfl dd_CoastReader_readItems_56 (fun M6 _ => ?_)
        refine mj_iload_n (pc := 59) (i := 3) rfl dd_CoastReader_readItems_59 ?_
        refine mj_iconst (pc := 60) (v := (1 : Int32)) (by decide) dd_CoastReader_readItems_60 ?_
        refine mj_iload (pc := 61) (i := 5) rfl dd_CoastReader_readItems_61 ?_
        refine mj_ishl (pc := 63) dd_CoastReader_readItems_63 ?_
        refine mj_ior (pc := 64) dd_CoastReader_readItems_64 ?_
        refine mj_istore_nL (pc := 65) (by decide) dd_CoastReader_readItems_65 (fun v7 _ => ?_)
        refine mj_L (L' := [(3, .int v7), (5, .int q4.1), (0, .ref 4), (1, .int x1), (2, .int x2), (4, .int x4)]) [0, 1, 2, 3, 4, 5] rfl ?_
        refine mj_aload_n (pc := 66) (i := 0) rfl dd_CoastReader_readItems_66 ?_
        refine mj_getR (pc := 67) (b := 4) (k := 2) qf_CoastReader_18 sh_4 cl_1 rfl (by decide) (r := 5) rfl dd_CoastReader_readItems_67 ?_
        refine mj_iload (pc := 70) (i := 5) rfl dd_CoastReader_readItems_70 ?_
        refine mj_aload_n (pc := 72) (i := 0) rfl dd_CoastReader_readItems_72 ?_
        refine mj_getR (pc := 73) (b := 4) (k := 1) qf_CoastReader_22 sh_4 cl_1 rfl (by decide) (r := 2) rfl dd_CoastReader_readItems_73 ?_
        refine mj_iconst (pc := 76) (v := (2 : Int32)) (by decide) dd_CoastReader_readItems_76 ?_
        refine mj_gets (pc := 77) (i := 1) rfl qf_CoastReader_101 dd_CoastReader_readItems_77 ?_
        refine mj_iload (pc := 80) (i := 5) rfl dd_CoastReader_readItems_80 ?_
        refine mj_stI (pc := 82) (i := 1) rfl dd_CoastReader_readItems_82 ?_
        refine mj_gets (pc := 83) (i := 2) rfl qf_CoastReader_104 dd_CoastReader_readItems_83 ?_
        refine mj_iload (pc := 86) (i := 5) rfl dd_CoastReader_readItems_86 ?_
        refine mj_stI (pc := 88) (i := 2) rfl dd_CoastReader_readItems_88 ?_
        refine mj_callVI (pc := 89) (idx := 107) (b := 2) (As := [.int (2 : Int32), .int (([0, 0, 0, 0, 0, 0, 0, 1, 0, 0] : List Int32).getD q4.1.toNatClampNeg 0), .int (([99, 63, 5, 9, 63, 9, 9, 9, 9, 1] : List Int32).getD q4.1.toNatClampNeg 0)]) (st := [.int q4.1, .ref 5]) sh_2 cl_10 ev_Tape_number ql_CoastReader_107 rfl (Nat.le_of_ble_eq_true rfl) (T_Tape_number (g := g) N e (by omega) (2 : Int32) (([0, 0, 0, 0, 0, 0, 0, 1, 0, 0] : List Int32).getD q4.1.toNatClampNeg 0) (([99, 63, 5, 9, 63, 9, 9, 9, 9, 1] : List Int32).getD q4.1.toNatClampNeg 0) M6) dd_CoastReader_readItems_89 (fun q8 hq8 => ?_)
        refine mj_iast (pc := 92) sh_5 dd_CoastReader_readItems_92 (fun M9 _ => ?_)
        refine mj_iinc (pc := 93) (i := 4) (z := (1 : Int32)) rfl (by decide) (by decide) dd_CoastReader_readItems_93 ?_
        refine mj_L (L' := [(4, .int (x4 + (1 : Int32))), (3, .int v7), (0, .ref 4), (1, .int x1), (2, .int x2)]) [0, 1, 3, 4, 5] rfl ?_
        refine mj_goto (pc := 96) (tgt := 24) dd_CoastReader_readItems_96 rfl ?_
        refine mj_L (L' := [(0, .ref 4), (1, .int x1), (2, .int x2), (3, .int v7), (4, .int (x4 + (1 : Int32)))]) [2, 3, 4, 1, 0] rfl ?_
        exact ih x1 x2 v7 (x4 + (1 : Int32)) M9
def F_CoastReader_readItems (N : Nat) (x1 : Int32) (x2 : Int32) (M : mj_M) : Option (mj_M) :=
    mj_lt (mj_u M 2 2 ((M 2 2) + (1 : Int32))) (fun M1 =>
     (F_CoastReader_takeItemsWithout x1 x2 M1).bind (fun q2 =>
     F_CoastReader_readItems_b24 N N x1 x2 (0 : Int32) x1 q2))
set_option maxRecDepth 20000 in
theorem T_CoastReader_readItems {g : mj_G} (N : Nat) : ∀ d, 4 ≤ d → ∀ (x1 : Int32) (x2 : Int32) (M : mj_M), mj_Mt g (mj_qV g) d y_CoastReader_readItems c_CoastReader_readItems 6 none [.ref 4, .int x1, .int x2] M (F_CoastReader_readItems N x1 x2 M) := by
  intro d hd x1 x2 M
  obtain ⟨e, rfl⟩ : ∃ e, d = e + 1 := ⟨d - 1, by omega⟩
  have he : 3 ≤ e := by omega
  refine mj_met (by decide +kernel) (Nat.le_of_ble_eq_true rfl) ?_
  unfold F_CoastReader_readItems
  refine mj_L (L' := [(0, .ref 4), (1, .int x1), (2, .int x2)]) [0, 1, 2] rfl ?_
  refine mj_aload_n (pc := 0) (i := 0) rfl dd_CoastReader_readItems_0 ?_
  refine mj_getR (pc := 1) (b := 4) (k := 1) qf_CoastReader_22 sh_4 cl_1 rfl (by decide) (r := 2) rfl dd_CoastReader_readItems_1 ?_
  refine mj_dup (pc := 4) rfl dd_CoastReader_readItems_4 ?_
  refine mj_getI (pc := 5) (b := 2) (k := 2) qf_CoastReader_85 sh_2 cl_10 rfl (by decide) rfl dd_CoastReader_readItems_5 ?_
  refine mj_iconst (pc := 8) (v := (1 : Int32)) (by decide) dd_CoastReader_readItems_8 ?_
  refine mj_iadd (pc := 9) dd_CoastReader_readItems_9 ?_
  refine mj_putI (pc := 10) (b := 2) (k := 2) qf_CoastReader_85 sh_2 cl_10 rfl (by decide) (by decide) rfl rfl rfl dd_CoastReader_readItems_10 (fun M1 _ => ?_)
  refine mj_aload_n (pc := 13) (i := 0) rfl dd_CoastReader_readItems_13 ?_
  refine mj_iload_n (pc := 14) (i := 1) rfl dd_CoastReader_readItems_14 ?_
  refine mj_iload_n (pc := 15) (i := 2) rfl dd_CoastReader_readItems_15 ?_
  refine mj_callVV (pc := 16) (idx := 42) (b := 4) (As := [.int x1, .int x2]) (st := []) sh_4 cl_1 ev_CoastReader_takeItemsWithout ql_CoastReader_42 rfl (Nat.le_of_ble_eq_true rfl) (T_CoastReader_takeItemsWithout (g := g) e (by omega) x1 x2 M1) dd_CoastReader_readItems_16 (fun q2 hq2 => ?_)
  refine mj_iconst (pc := 19) (v := (0 : Int32)) (by decide) dd_CoastReader_readItems_19 ?_
  refine mj_istore_n (pc := 20) (by decide) dd_CoastReader_readItems_20 ?_
  refine mj_L (L' := [(3, .int (0 : Int32)), (0, .ref 4), (1, .int x1), (2, .int x2)]) [0, 1, 2, 3] rfl ?_
  refine mj_iload_n (pc := 21) (i := 1) rfl dd_CoastReader_readItems_21 ?_
  refine mj_istore (pc := 22) (by decide) dd_CoastReader_readItems_22 ?_
  refine mj_L (L' := [(4, .int x1), (3, .int (0 : Int32)), (0, .ref 4), (1, .int x1), (2, .int x2)]) [0, 1, 2, 3, 4] rfl ?_
  refine mj_L (L' := [(0, .ref 4), (1, .int x1), (2, .int x2), (3, .int (0 : Int32)), (4, .int x1)]) [2, 3, 4, 1, 0] rfl ?_
  exact T_CoastReader_readItems_b24 (g := g) N e he N x1 x2 (0 : Int32) x1 q2
def F_CoastReader_keepHouse (M : mj_M) : Option (mj_M) :=
    mj_lt (M 41 0) (fun v1 =>
     mj_ck v1 6 (mj_lt (mj_u M 42 v1.toNatClampNeg (M 5 4)) (fun M2 =>
     mj_ck v1 6 (mj_lt (mj_u M2 43 v1.toNatClampNeg (M2 5 5)) (fun M3 =>
     mj_ck v1 6 (mj_lt (mj_u M3 44 v1.toNatClampNeg (M3 5 6)) (fun M4 =>
     mj_lt (mj_u M4 41 0 ((M4 41 0) + (1 : Int32))) (fun M5 =>
     some M5))))))))
set_option maxRecDepth 20000 in
theorem T_CoastReader_keepHouse {g : mj_G} : ∀ d, 1 ≤ d → ∀ (M : mj_M), mj_Mt g (mj_qV g) d y_CoastReader_keepHouse c_CoastReader_keepHouse 2 none [.ref 4] M (F_CoastReader_keepHouse M) := by
  intro d hd M
  obtain ⟨e, rfl⟩ : ∃ e, d = e + 1 := ⟨d - 1, by omega⟩
  have he : 0 ≤ e := by omega
  refine mj_met (by decide +kernel) (Nat.le_of_ble_eq_true rfl) ?_
  unfold F_CoastReader_keepHouse
  refine mj_L (L' := [(0, .ref 4)]) [0] rfl ?_
  refine mj_aload_n (pc := 0) (i := 0) rfl dd_CoastReader_keepHouse_0 ?_
  refine mj_getR (pc := 1) (b := 4) (k := 0) qf_CoastReader_12 sh_4 cl_1 rfl (by decide) (r := 41) rfl dd_CoastReader_keepHouse_1 ?_
  refine mj_getI (pc := 4) (b := 41) (k := 0) qf_CoastReader_31 sh_41 cl_0 rfl (by decide) rfl dd_CoastReader_keepHouse_4 ?_
  refine mj_istore_nL (pc := 7) (by decide) dd_CoastReader_keepHouse_7 (fun v1 _ => ?_)
  refine mj_L (L' := [(1, .int v1), (0, .ref 4)]) [0, 1] rfl ?_
  refine mj_aload_n (pc := 8) (i := 0) rfl dd_CoastReader_keepHouse_8 ?_
  refine mj_getR (pc := 9) (b := 4) (k := 0) qf_CoastReader_12 sh_4 cl_1 rfl (by decide) (r := 41) rfl dd_CoastReader_keepHouse_9 ?_
  refine mj_getR (pc := 12) (b := 41) (k := 6) qf_CoastReader_123 sh_41 cl_0 rfl (by decide) (r := 42) rfl dd_CoastReader_keepHouse_12 ?_
  refine mj_iload_n (pc := 15) (i := 1) rfl dd_CoastReader_keepHouse_15 ?_
  refine mj_aload_n (pc := 16) (i := 0) rfl dd_CoastReader_keepHouse_16 ?_
  refine mj_getR (pc := 17) (b := 4) (k := 2) qf_CoastReader_18 sh_4 cl_1 rfl (by decide) (r := 5) rfl dd_CoastReader_keepHouse_17 ?_
  refine mj_iconst (pc := 20) (v := (4 : Int32)) (by decide) dd_CoastReader_keepHouse_20 ?_
  refine mj_ialdK (pc := 21) (j := 4) sh_5 (by decide) rfl dd_CoastReader_keepHouse_21 ?_
  refine mj_iast (pc := 22) sh_42 dd_CoastReader_keepHouse_22 (fun M2 _ => ?_)
  refine mj_aload_n (pc := 23) (i := 0) rfl dd_CoastReader_keepHouse_23 ?_
  refine mj_getR (pc := 24) (b := 4) (k := 0) qf_CoastReader_12 sh_4 cl_1 rfl (by decide) (r := 41) rfl dd_CoastReader_keepHouse_24 ?_
  refine mj_getR (pc := 27) (b := 41) (k := 7) qf_CoastReader_126 sh_41 cl_0 rfl (by decide) (r := 43) rfl dd_CoastReader_keepHouse_27 ?_
  refine mj_iload_n (pc := 30) (i := 1) rfl dd_CoastReader_keepHouse_30 ?_
  refine mj_aload_n (pc := 31) (i := 0) rfl dd_CoastReader_keepHouse_31 ?_
  refine mj_getR (pc := 32) (b := 4) (k := 2) qf_CoastReader_18 sh_4 cl_1 rfl (by decide) (r := 5) rfl dd_CoastReader_keepHouse_32 ?_
  refine mj_iconst (pc := 35) (v := (5 : Int32)) (by decide) dd_CoastReader_keepHouse_35 ?_
  refine mj_ialdK (pc := 36) (j := 5) sh_5 (by decide) rfl dd_CoastReader_keepHouse_36 ?_
  refine mj_iast (pc := 37) sh_43 dd_CoastReader_keepHouse_37 (fun M3 _ => ?_)
  refine mj_aload_n (pc := 38) (i := 0) rfl dd_CoastReader_keepHouse_38 ?_
  refine mj_getR (pc := 39) (b := 4) (k := 0) qf_CoastReader_12 sh_4 cl_1 rfl (by decide) (r := 41) rfl dd_CoastReader_keepHouse_39 ?_
  refine mj_getR (pc := 42) (b := 41) (k := 8) qf_CoastReader_129 sh_41 cl_0 rfl (by decide) (r := 44) rfl dd_CoastReader_keepHouse_42 ?_
  refine mj_iload_n (pc := 45) (i := 1) rfl dd_CoastReader_keepHouse_45 ?_
  refine mj_aload_n (pc := 46) (i := 0) rfl dd_CoastReader_keepHouse_46 ?_
  refine mj_getR (pc := 47) (b := 4) (k := 2) qf_CoastReader_18 sh_4 cl_1 rfl (by decide) (r := 5) rfl dd_CoastReader_keepHouse_47 ?_
  refine mj_bipush (pc := 50) (v := (6 : Int32)) (by decide) dd_CoastReader_keepHouse_50 ?_
  refine mj_ialdK (pc := 52) (j := 6) sh_5 (by decide) rfl dd_CoastReader_keepHouse_52 ?_
  refine mj_iast (pc := 53) sh_44 dd_CoastReader_keepHouse_53 (fun M4 _ => ?_)
  refine mj_aload_n (pc := 54) (i := 0) rfl dd_CoastReader_keepHouse_54 ?_
  refine mj_getR (pc := 55) (b := 4) (k := 0) qf_CoastReader_12 sh_4 cl_1 rfl (by decide) (r := 41) rfl dd_CoastReader_keepHouse_55 ?_
  refine mj_dup (pc := 58) rfl dd_CoastReader_keepHouse_58 ?_
  refine mj_getI (pc := 59) (b := 41) (k := 0) qf_CoastReader_31 sh_41 cl_0 rfl (by decide) rfl dd_CoastReader_keepHouse_59 ?_
  refine mj_iconst (pc := 62) (v := (1 : Int32)) (by decide) dd_CoastReader_keepHouse_62 ?_
  refine mj_iadd (pc := 63) dd_CoastReader_keepHouse_63 ?_
  refine mj_putI (pc := 64) (b := 41) (k := 0) qf_CoastReader_31 sh_41 cl_0 rfl (by decide) (by decide) rfl rfl rfl dd_CoastReader_keepHouse_64 (fun M5 _ => ?_)
  exact mj_vret dd_CoastReader_keepHouse_67 rfl rfl
def F_CoastReader_keepTale (M : mj_M) : Option (mj_M) :=
    mj_lt (M 41 1) (fun v1 =>
     mj_ck v1 6 (mj_lt (mj_u M 45 v1.toNatClampNeg (M 5 7)) (fun M2 =>
     mj_ck v1 6 (mj_lt (mj_u M2 46 v1.toNatClampNeg (M2 5 8)) (fun M3 =>
     mj_ck v1 6 (mj_lt (mj_u M3 47 v1.toNatClampNeg (M3 5 9)) (fun M4 =>
     mj_lt (mj_u M4 41 1 ((M4 41 1) + (1 : Int32))) (fun M5 =>
     some M5))))))))
set_option maxRecDepth 20000 in
theorem T_CoastReader_keepTale {g : mj_G} : ∀ d, 1 ≤ d → ∀ (M : mj_M), mj_Mt g (mj_qV g) d y_CoastReader_keepTale c_CoastReader_keepTale 2 none [.ref 4] M (F_CoastReader_keepTale M) := by
  intro d hd M
  obtain ⟨e, rfl⟩ : ∃ e, d = e + 1 := ⟨d - 1, by omega⟩
  have he : 0 ≤ e := by omega
  refine mj_met (by decide +kernel) (Nat.le_of_ble_eq_true rfl) ?_
  unfold F_CoastReader_keepTale
  refine mj_L (L' := [(0, .ref 4)]) [0] rfl ?_
  refine mj_aload_n (pc := 0) (i := 0) rfl dd_CoastReader_keepTale_0 ?_
  refine mj_getR (pc := 1) (b := 4) (k := 0) qf_CoastReader_12 sh_4 cl_1 rfl (by decide) (r := 41) rfl dd_CoastReader_keepTale_1 ?_
  refine mj_getI (pc := 4) (b := 41) (k := 1) qf_CoastReader_35 sh_41 cl_0 rfl (by decide) rfl dd_CoastReader_keepTale_4 ?_
  refine mj_istore_nL (pc := 7) (by decide) dd_CoastReader_keepTale_7 (fun v1 _ => ?_)
  refine mj_L (L' := [(1, .int v1), (0, .ref 4)]) [0, 1] rfl ?_
  refine mj_aload_n (pc := 8) (i := 0) rfl dd_CoastReader_keepTale_8 ?_
  refine mj_getR (pc := 9) (b := 4) (k := 0) qf_CoastReader_12 sh_4 cl_1 rfl (by decide) (r := 41) rfl dd_CoastReader_keepTale_9 ?_
  refine mj_getR (pc := 12) (b := 41) (k := 9) qf_CoastReader_132 sh_41 cl_0 rfl (by decide) (r := 45) rfl dd_CoastReader_keepTale_12 ?_
  refine mj_iload_n (pc := 15) (i := 1) rfl dd_CoastReader_keepTale_15 ?_
  refine mj_aload_n (pc := 16) (i := 0) rfl dd_CoastReader_keepTale_16 ?_
  refine mj_getR (pc := 17) (b := 4) (k := 2) qf_CoastReader_18 sh_4 cl_1 rfl (by decide) (r := 5) rfl dd_CoastReader_keepTale_17 ?_
  refine mj_bipush (pc := 20) (v := (7 : Int32)) (by decide) dd_CoastReader_keepTale_20 ?_
  refine mj_ialdK (pc := 22) (j := 7) sh_5 (by decide) rfl dd_CoastReader_keepTale_22 ?_
  refine mj_iast (pc := 23) sh_45 dd_CoastReader_keepTale_23 (fun M2 _ => ?_)
  refine mj_aload_n (pc := 24) (i := 0) rfl dd_CoastReader_keepTale_24 ?_
  refine mj_getR (pc := 25) (b := 4) (k := 0) qf_CoastReader_12 sh_4 cl_1 rfl (by decide) (r := 41) rfl dd_CoastReader_keepTale_25 ?_
  refine mj_getR (pc := 28) (b := 41) (k := 10) qf_CoastReader_135 sh_41 cl_0 rfl (by decide) (r := 46) rfl dd_CoastReader_keepTale_28 ?_
  refine mj_iload_n (pc := 31) (i := 1) rfl dd_CoastReader_keepTale_31 ?_
  refine mj_aload_n (pc := 32) (i := 0) rfl dd_CoastReader_keepTale_32 ?_
  refine mj_getR (pc := 33) (b := 4) (k := 2) qf_CoastReader_18 sh_4 cl_1 rfl (by decide) (r := 5) rfl dd_CoastReader_keepTale_33 ?_
  refine mj_bipush (pc := 36) (v := (8 : Int32)) (by decide) dd_CoastReader_keepTale_36 ?_
  refine mj_ialdK (pc := 38) (j := 8) sh_5 (by decide) rfl dd_CoastReader_keepTale_38 ?_
  refine mj_iast (pc := 39) sh_46 dd_CoastReader_keepTale_39 (fun M3 _ => ?_)
  refine mj_aload_n (pc := 40) (i := 0) rfl dd_CoastReader_keepTale_40 ?_
  refine mj_getR (pc := 41) (b := 4) (k := 0) qf_CoastReader_12 sh_4 cl_1 rfl (by decide) (r := 41) rfl dd_CoastReader_keepTale_41 ?_
  refine mj_getR (pc := 44) (b := 41) (k := 11) qf_CoastReader_138 sh_41 cl_0 rfl (by decide) (r := 47) rfl dd_CoastReader_keepTale_44 ?_
  refine mj_iload_n (pc := 47) (i := 1) rfl dd_CoastReader_keepTale_47 ?_
  refine mj_aload_n (pc := 48) (i := 0) rfl dd_CoastReader_keepTale_48 ?_
  refine mj_getR (pc := 49) (b := 4) (k := 2) qf_CoastReader_18 sh_4 cl_1 rfl (by decide) (r := 5) rfl dd_CoastReader_keepTale_49 ?_
  refine mj_bipush (pc := 52) (v := (9 : Int32)) (by decide) dd_CoastReader_keepTale_52 ?_
  refine mj_ialdK (pc := 54) (j := 9) sh_5 (by decide) rfl dd_CoastReader_keepTale_54 ?_
  refine mj_iast (pc := 55) sh_47 dd_CoastReader_keepTale_55 (fun M4 _ => ?_)
  refine mj_aload_n (pc := 56) (i := 0) rfl dd_CoastReader_keepTale_56 ?_
  refine mj_getR (pc := 57) (b := 4) (k := 0) qf_CoastReader_12 sh_4 cl_1 rfl (by decide) (r := 41) rfl dd_CoastReader_keepTale_57 ?_
  refine mj_dup (pc := 60) rfl dd_CoastReader_keepTale_60 ?_
  refine mj_getI (pc := 61) (b := 41) (k := 1) qf_CoastReader_35 sh_41 cl_0 rfl (by decide) rfl dd_CoastReader_keepTale_61 ?_
  refine mj_iconst (pc := 64) (v := (1 : Int32)) (by decide) dd_CoastReader_keepTale_64 ?_
  refine mj_iadd (pc := 65) dd_CoastReader_keepTale_65 ?_
  refine mj_putI (pc := 66) (b := 41) (k := 1) qf_CoastReader_35 sh_41 cl_0 rfl (by decide) (by decide) rfl rfl rfl dd_CoastReader_keepTale_66 (fun M5 _ => ?_)
  exact mj_vret dd_CoastReader_keepTale_69 rfl rfl
def F_CoastReader_readClause_b104 (N : Nat) (M : mj_M) : Option (mj_M) :=
    (F_Tape_fail (M 2 2) M).bind (fun q15 =>
     some q15)
set_option maxRecDepth 20000 in
theorem T_CoastReader_readClause_b104 {g : mj_G} (N : Nat) (e : Nat) (he : 4 ≤ e) (M : mj_M) : mj_X g (mj_qV g) "WinterTellers$CoastReader" c_CoastReader_readClause 2 none e 104 [(0, .ref 4)] [] M (F_CoastReader_readClause_b104 N M) := by
  unfold F_CoastReader_readClause_b104
  refine mj_aload_n (pc := 104) (i := 0) rfl dd_CoastReader_readClause_104 ?_
  refine mj_getR (pc := 105) (b := 4) (k := 1) qf_CoastReader_22 sh_4 cl_1 rfl (by decide) (r := 2) rfl dd_CoastReader_readClause_105 ?_
  refine mj_aload_n (pc := 108) (i := 0) rfl dd_CoastReader_readClause_108 ?_
  refine mj_getR (pc := 109) (b := 4) (k := 1) qf_CoastReader_22 sh_4 cl_1 rfl (by decide) (r := 2) rfl dd_CoastReader_readClause_109 ?_
  refine mj_getI (pc := 112) (b := 2) (k := 2) qf_CoastReader_85 sh_2 cl_10 rfl (by decide) rfl dd_CoastReader_readClause_112 ?_
  refine mj_callVV (pc := 115) (idx := 65) (b := 2) (As := [.int (M 2 2)]) (st := []) sh_2 cl_10 ev_Tape_fail ql_CoastReader_65 rfl (Nat.le_of_ble_eq_true rfl) (T_Tape_fail (g := g) e (by omega) (M 2 2) M) dd_CoastReader_readClause_115 (fun q15 hq15 => ?_)
  exact mj_vret dd_CoastReader_readClause_118 rfl rfl
def F_CoastReader_readClause_b71 (N : Nat) (x1 : Int32) (M : mj_M) : Option (mj_M) :=
    if x1 = (116 : Int32) then
     (if (6 : Int32) ≤ (M 41 1) then
     (F_CoastReader_readClause_b104 N M)
     else
     ((F_CoastReader_readItems N (7 : Int32) (10 : Int32) M).bind (fun q13 =>
     (F_CoastReader_keepTale q13).bind (fun q14 =>
     some q14))))
     else
     (F_CoastReader_readClause_b104 N M)
set_option maxRecDepth 20000 in
theorem T_CoastReader_readClause_b71 {g : mj_G} (N : Nat) (e : Nat) (he : 4 ≤ e) (x1 : Int32) (M : mj_M) : mj_X g (mj_qV g) "WinterTellers$CoastReader" c_CoastReader_readClause 2 none e 71 [(0, .ref 4), (1, .int x1)] [] M (F_CoastReader_readClause_b71 N x1 M) := by
  unfold F_CoastReader_readClause_b71
  refine mj_iload_n (pc := 71) (i := 1) rfl dd_CoastReader_readClause_71 ?_
  refine mj_bipush (pc := 72) (v := (116 : Int32)) (by decide) dd_CoastReader_readClause_72 ?_
  refine mj_icmp_ne (pc := 74) (tgt := 104) dd_CoastReader_readClause_74 rfl (fun h11 => ?_) (fun h11 => ?_)
  · refine mj_aload_n (pc := 77) (i := 0) rfl dd_CoastReader_readClause_77 ?_
    refine mj_getR (pc := 78) (b := 4) (k := 0) qf_CoastReader_12 sh_4 cl_1 rfl (by decide) (r := 41) rfl dd_CoastReader_readClause_78 ?_
    refine mj_getI (pc := 81) (b := 41) (k := 1) qf_CoastReader_35 sh_41 cl_0 rfl (by decide) rfl dd_CoastReader_readClause_81 ?_
    refine mj_bipush (pc := 84) (v := (6 : Int32)) (by decide) dd_CoastReader_readClause_84 ?_
    refine mj_icmp_ge (pc := 86) (tgt := 104) dd_CoastReader_readClause_86 rfl (fun h12 => ?_) (fun h12 => ?_)
    · refine mj_L (L' := [(0, .ref 4)]) [0] rfl ?_
      exact T_CoastReader_readClause_b104 (g := g) N e he M
    · refine mj_aload_n (pc := 89) (i := 0) rfl dd_CoastReader_readClause_89 ?_
      refine mj_bipush (pc := 90) (v := (7 : Int32)) (by decide) dd_CoastReader_readClause_90 ?_
      refine mj_bipush (pc := 92) (v := (10 : Int32)) (by decide) dd_CoastReader_readClause_92 ?_
      refine mj_callVV (pc := 94) (idx := 76) (b := 4) (As := [.int (7 : Int32), .int (10 : Int32)]) (st := []) sh_4 cl_1 ev_CoastReader_readItems ql_CoastReader_76 rfl (Nat.le_of_ble_eq_true rfl) (T_CoastReader_readItems (g := g) N e (by omega) (7 : Int32) (10 : Int32) M) dd_CoastReader_readClause_94 (fun q13 hq13 => ?_)
      refine mj_aload_n (pc := 97) (i := 0) rfl dd_CoastReader_readClause_97 ?_
      refine mj_callVV (pc := 98) (idx := 82) (b := 4) (As := []) (st := []) sh_4 cl_1 ev_CoastReader_keepTale ql_CoastReader_82 rfl (Nat.le_of_ble_eq_true rfl) (T_CoastReader_keepTale (g := g) e (by omega) q13) dd_CoastReader_readClause_98 (fun q14 hq14 => ?_)
      refine mj_goto (pc := 101) (tgt := 118) dd_CoastReader_readClause_101 rfl ?_
      exact mj_vret dd_CoastReader_readClause_118 rfl rfl
  · refine mj_L (L' := [(0, .ref 4)]) [0] rfl ?_
    exact T_CoastReader_readClause_b104 (g := g) N e he M
def F_CoastReader_readClause_b39 (N : Nat) (x1 : Int32) (M : mj_M) : Option (mj_M) :=
    if x1 = (104 : Int32) then
     (if (6 : Int32) ≤ (M 41 0) then
     (F_CoastReader_readClause_b71 N x1 M)
     else
     ((F_CoastReader_readItems N (4 : Int32) (7 : Int32) M).bind (fun q9 =>
     (F_CoastReader_keepHouse q9).bind (fun q10 =>
     some q10))))
     else
     (F_CoastReader_readClause_b71 N x1 M)
set_option maxRecDepth 20000 in
theorem T_CoastReader_readClause_b39 {g : mj_G} (N : Nat) (e : Nat) (he : 4 ≤ e) (x1 : Int32) (M : mj_M) : mj_X g (mj_qV g) "WinterTellers$CoastReader" c_CoastReader_readClause 2 none e 39 [(0, .ref 4), (1, .int x1)] [] M (F_CoastReader_readClause_b39 N x1 M) := by
  unfold F_CoastReader_readClause_b39
  refine mj_iload_n (pc := 39) (i := 1) rfl dd_CoastReader_readClause_39 ?_
  refine mj_bipush (pc := 40) (v := (104 : Int32)) (by decide) dd_CoastReader_readClause_40 ?_
  refine mj_icmp_ne (pc := 42) (tgt := 71) dd_CoastReader_readClause_42 rfl (fun h7 => ?_) (fun h7 => ?_)
  · refine mj_aload_n (pc := 45) (i := 0) rfl dd_CoastReader_readClause_45 ?_
    refine mj_getR (pc := 46) (b := 4) (k := 0) qf_CoastReader_12 sh_4 cl_1 rfl (by decide) (r := 41) rfl dd_CoastReader_readClause_46 ?_
    refine mj_getI (pc := 49) (b := 41) (k := 0) qf_CoastReader_31 sh_41 cl_0 rfl (by decide) rfl dd_CoastReader_readClause_49 ?_
    refine mj_bipush (pc := 52) (v := (6 : Int32)) (by decide) dd_CoastReader_readClause_52 ?_
    refine mj_icmp_ge (pc := 54) (tgt := 71) dd_CoastReader_readClause_54 rfl (fun h8 => ?_) (fun h8 => ?_)
    · refine mj_L (L' := [(0, .ref 4), (1, .int x1)]) [0, 1] rfl ?_
      exact T_CoastReader_readClause_b71 (g := g) N e he x1 M
    · refine mj_aload_n (pc := 57) (i := 0) rfl dd_CoastReader_readClause_57 ?_
      refine mj_iconst (pc := 58) (v := (4 : Int32)) (by decide) dd_CoastReader_readClause_58 ?_
      refine mj_bipush (pc := 59) (v := (7 : Int32)) (by decide) dd_CoastReader_readClause_59 ?_
      refine mj_callVV (pc := 61) (idx := 76) (b := 4) (As := [.int (4 : Int32), .int (7 : Int32)]) (st := []) sh_4 cl_1 ev_CoastReader_readItems ql_CoastReader_76 rfl (Nat.le_of_ble_eq_true rfl) (T_CoastReader_readItems (g := g) N e (by omega) (4 : Int32) (7 : Int32) M) dd_CoastReader_readClause_61 (fun q9 hq9 => ?_)
      refine mj_aload_n (pc := 64) (i := 0) rfl dd_CoastReader_readClause_64 ?_
      refine mj_callVV (pc := 65) (idx := 79) (b := 4) (As := []) (st := []) sh_4 cl_1 ev_CoastReader_keepHouse ql_CoastReader_79 rfl (Nat.le_of_ble_eq_true rfl) (T_CoastReader_keepHouse (g := g) e (by omega) q9) dd_CoastReader_readClause_65 (fun q10 hq10 => ?_)
      refine mj_goto (pc := 68) (tgt := 118) dd_CoastReader_readClause_68 rfl ?_
      exact mj_vret dd_CoastReader_readClause_118 rfl rfl
  · refine mj_L (L' := [(0, .ref 4), (1, .int x1)]) [0, 1] rfl ?_
    exact T_CoastReader_readClause_b71 (g := g) N e he x1 M
def F_CoastReader_readClause (N : Nat) (M : mj_M) : Option (mj_M) :=
    (F_Tape_peek N M).bind (fun q1 =>
     if q1.1 = (115 : Int32) then
     (if (q1.2 4 3) = (0) then
     (mj_lt (mj_u q1.2 4 3 (1 : Int32)) (fun M4 =>
     (F_CoastReader_readItems N (0 : Int32) (4 : Int32) M4).bind (fun q5 =>
     (F_CoastReader_keepRules q5).bind (fun q6 =>
     some q6))))
     else
     (F_CoastReader_readClause_b39 N q1.1 q1.2))
     else
     (F_CoastReader_readClause_b39 N q1.1 q1.2))
set_option maxRecDepth 20000 in
theorem T_CoastReader_readClause {g : mj_G} (N : Nat) : ∀ d, 5 ≤ d → ∀ (M : mj_M), mj_Mt g (mj_qV g) d y_CoastReader_readClause c_CoastReader_readClause 2 none [.ref 4] M (F_CoastReader_readClause N M) := by
  intro d hd M
  obtain ⟨e, rfl⟩ : ∃ e, d = e + 1 := ⟨d - 1, by omega⟩
  have he : 4 ≤ e := by omega
  refine mj_met (by decide +kernel) (Nat.le_of_ble_eq_true rfl) ?_
  unfold F_CoastReader_readClause
  refine mj_L (L' := [(0, .ref 4)]) [0] rfl ?_
  refine mj_aload_n (pc := 0) (i := 0) rfl dd_CoastReader_readClause_0 ?_
  refine mj_getR (pc := 1) (b := 4) (k := 1) qf_CoastReader_22 sh_4 cl_1 rfl (by decide) (r := 2) rfl dd_CoastReader_readClause_1 ?_
  refine mj_callVI (pc := 4) (idx := 72) (b := 2) (As := []) (st := []) sh_2 cl_10 ev_Tape_peek ql_CoastReader_72 rfl (Nat.le_of_ble_eq_true rfl) (T_Tape_peek (g := g) N e (by omega) M) dd_CoastReader_readClause_4 (fun q1 hq1 => ?_)
  refine mj_istore_n (pc := 7) (by decide) dd_CoastReader_readClause_7 ?_
  refine mj_L (L' := [(1, .int q1.1), (0, .ref 4)]) [0, 1] rfl ?_
  refine mj_iload_n (pc := 8) (i := 1) rfl dd_CoastReader_readClause_8 ?_
  refine mj_bipush (pc := 9) (v := (115 : Int32)) (by decide) dd_CoastReader_readClause_9 ?_
  refine mj_icmp_ne (pc := 11) (tgt := 39) dd_CoastReader_readClause_11 rfl (fun h2 => ?_) (fun h2 => ?_)
  · refine mj_aload_n (pc := 14) (i := 0) rfl dd_CoastReader_readClause_14 ?_
    refine mj_getI (pc := 15) (b := 4) (k := 3) qf_CoastReader_38 sh_4 cl_1 rfl (by decide) rfl dd_CoastReader_readClause_15 ?_
    refine mj_if_ne (pc := 18) (tgt := 39) dd_CoastReader_readClause_18 rfl (fun h3 => ?_) (fun h3 => ?_)
    · refine mj_aload_n (pc := 21) (i := 0) rfl dd_CoastReader_readClause_21 ?_
      refine mj_iconst (pc := 22) (v := (1 : Int32)) (by decide) dd_CoastReader_readClause_22 ?_
      refine mj_putZ (pc := 23) (b := 4) (k := 3) qf_CoastReader_38 sh_4 cl_1 rfl (by decide) (by decide) (by decide) rfl rfl rfl dd_CoastReader_readClause_23 (fun M4 _ => ?_)
      refine mj_aload_n (pc := 26) (i := 0) rfl dd_CoastReader_readClause_26 ?_
      refine mj_iconst (pc := 27) (v := (0 : Int32)) (by decide) dd_CoastReader_readClause_27 ?_
      refine mj_iconst (pc := 28) (v := (4 : Int32)) (by decide) dd_CoastReader_readClause_28 ?_
      refine mj_callVV (pc := 29) (idx := 76) (b := 4) (As := [.int (0 : Int32), .int (4 : Int32)]) (st := []) sh_4 cl_1 ev_CoastReader_readItems ql_CoastReader_76 rfl (Nat.le_of_ble_eq_true rfl) (T_CoastReader_readItems (g := g) N e (by omega) (0 : Int32) (4 : Int32) M4) dd_CoastReader_readClause_29 (fun q5 hq5 => ?_)
      refine mj_aload_n (pc := 32) (i := 0) rfl dd_CoastReader_readClause_32 ?_
      refine mj_callVV (pc := 33) (idx := 46) (b := 4) (As := []) (st := []) sh_4 cl_1 ev_CoastReader_keepRules ql_CoastReader_46 rfl (Nat.le_of_ble_eq_true rfl) (T_CoastReader_keepRules (g := g) e (by omega) q5) dd_CoastReader_readClause_33 (fun q6 hq6 => ?_)
      refine mj_goto (pc := 36) (tgt := 118) dd_CoastReader_readClause_36 rfl ?_
      exact mj_vret dd_CoastReader_readClause_118 rfl rfl
    · refine mj_L (L' := [(0, .ref 4), (1, .int q1.1)]) [1, 0] rfl ?_
      exact T_CoastReader_readClause_b39 (g := g) N e he q1.1 q1.2
  · refine mj_L (L' := [(0, .ref 4), (1, .int q1.1)]) [1, 0] rfl ?_
    exact T_CoastReader_readClause_b39 (g := g) N e he q1.1 q1.2
