/-! ===== functions and their proofs ===== -/
def F_Duel_standIn_b39 (N : Nat) (k2 : Int32 → Int32 → mj_M → Option (mj_M)) (x1 : Int32) (x2 : Int32) (x3 : Int32) (s1 : Int32) (s2 : Int32) (M : mj_M) : Option (mj_M) :=
    mj_ck s1 6 (mj_lt (mj_u M 39 s1.toNatClampNeg s2) (fun M5 =>
     if x3 = (0) then
     (mj_ck x2 6 (mj_lt (mj_u M5 40 x2.toNatClampNeg (0 : Int32)) (fun M7 =>
     k2 x1 (x2 + (1 : Int32)) M7)))
     else
     ((F_Stays_onceMore N x1 x2 M5).bind (fun q8 =>
     mj_ck x2 6 (mj_lt (mj_u q8.2 40 x2.toNatClampNeg q8.1) (fun M9 =>
     k2 x1 (x2 + (1 : Int32)) M9))))))
set_option maxRecDepth 20000 in
theorem T_Duel_standIn_b39 {g : mj_G} (N : Nat) (e : Nat) (he : 5 ≤ e) (k2 : Int32 → Int32 → mj_M → Option (mj_M)) (hk2 : ∀ (x1 : Int32) (x2 : Int32) (M : mj_M), mj_X g (mj_qV g) "WinterTellers$Duel" c_Duel_standIn 4 none e 2 [(0, .ref 38), (1, .int x1), (2, .int x2)] [] M (k2 x1 x2 M)) (x1 : Int32) (x2 : Int32) (x3 : Int32) (s1 : Int32) (s2 : Int32) (M : mj_M) : mj_X g (mj_qV g) "WinterTellers$Duel" c_Duel_standIn 4 none e 39 [(0, .ref 38), (1, .int x1), (2, .int x2), (3, .int x3)] [.int s2, .int s1, .ref 39] M (F_Duel_standIn_b39 N k2 x1 x2 x3 s1 s2 M) := by
  unfold F_Duel_standIn_b39
  refine mj_iast (pc := 39) sh_39 dd_Duel_standIn_39 (fun M5 _ => ?_)
  refine mj_aload_n (pc := 40) (i := 0) rfl dd_Duel_standIn_40 ?_
  refine mj_getR (pc := 41) (b := 38) (k := 3) qf_Duel_15 sh_38 cl_2 rfl (by decide) (r := 40) rfl dd_Duel_standIn_41 ?_
  refine mj_iload_n (pc := 44) (i := 2) rfl dd_Duel_standIn_44 ?_
  refine mj_iload_n (pc := 45) (i := 3) rfl dd_Duel_standIn_45 ?_
  refine mj_if_eq (pc := 46) (tgt := 61) dd_Duel_standIn_46 rfl (fun h6 => ?_) (fun h6 => ?_)
  · refine mj_iconst (pc := 61) (v := (0 : Int32)) (by decide) dd_Duel_standIn_61 ?_
    refine mj_iast (pc := 62) sh_40 dd_Duel_standIn_62 (fun M7 _ => ?_)
    refine mj_iinc (pc := 63) (i := 2) (z := (1 : Int32)) rfl (by decide) (by decide) dd_Duel_standIn_63 ?_
    refine mj_L (L' := [(2, .int (x2 + (1 : Int32))), (0, .ref 38), (1, .int x1)]) [0, 1, 2] rfl ?_
    refine mj_goto (pc := 66) (tgt := 2) dd_Duel_standIn_66 rfl ?_
    refine mj_L (L' := [(0, .ref 38), (1, .int x1), (2, .int (x2 + (1 : Int32)))]) [1, 2, 0] rfl ?_
    exact hk2 x1 (x2 + (1 : Int32)) M7
  · refine mj_aload_n (pc := 49) (i := 0) rfl dd_Duel_standIn_49 ?_
    refine mj_getR (pc := 50) (b := 38) (k := 1) qf_Duel_22 sh_38 cl_2 rfl (by decide) (r := 28) rfl dd_Duel_standIn_50 ?_
    refine mj_iload_n (pc := 53) (i := 1) rfl dd_Duel_standIn_53 ?_
    refine mj_iload_n (pc := 54) (i := 2) rfl dd_Duel_standIn_54 ?_
    refine mj_callVI (pc := 55) (idx := 37) (b := 28) (As := [.int x1, .int x2]) (st := [.int x2, .ref 40]) sh_28 cl_9 ev_Stays_onceMore ql_Duel_37 rfl (Nat.le_of_ble_eq_true rfl) (T_Stays_onceMore (g := g) N e (by omega) x1 x2 M5) dd_Duel_standIn_55 (fun q8 hq8 => ?_)
    refine mj_goto (pc := 58) (tgt := 62) dd_Duel_standIn_58 rfl ?_
    refine mj_iast (pc := 62) sh_40 dd_Duel_standIn_62 (fun M9 _ => ?_)
    refine mj_iinc (pc := 63) (i := 2) (z := (1 : Int32)) rfl (by decide) (by decide) dd_Duel_standIn_63 ?_
    refine mj_L (L' := [(2, .int (x2 + (1 : Int32))), (0, .ref 38), (1, .int x1)]) [0, 1, 2] rfl ?_
    refine mj_goto (pc := 66) (tgt := 2) dd_Duel_standIn_66 rfl ?_
    refine mj_L (L' := [(0, .ref 38), (1, .int x1), (2, .int (x2 + (1 : Int32)))]) [1, 2, 0] rfl ?_
    exact hk2 x1 (x2 + (1 : Int32)) M9
def F_Duel_standIn_b2 (N : Nat) : Nat → Int32 → Int32 → mj_M → Option (mj_M)
  | 0, _, _, _ => none
  | n + 1, x1, x2, M =>
    if (6 : Int32) ≤ x2 then
     (some M)
     else
     ((F_Coast_hasTale x2 M).bind (fun q2 =>
     if q2.1 = (0) then
     (F_Duel_standIn_b39 N (F_Duel_standIn_b2 N n) x1 x2 q2.1 x2 (0 : Int32) q2.2)
     else
     ((F_Stays_now N x1 x2 q2.2).bind (fun q4 =>
     F_Duel_standIn_b39 N (F_Duel_standIn_b2 N n) x1 x2 q2.1 x2 q4.1 q4.2))))
set_option maxRecDepth 20000 in
theorem T_Duel_standIn_b2 {g : mj_G} (N : Nat) (e : Nat) (he : 5 ≤ e) : ∀ (n : Nat) (x1 : Int32) (x2 : Int32) (M : mj_M), mj_X g (mj_qV g) "WinterTellers$Duel" c_Duel_standIn 4 none e 2 [(0, .ref 38), (1, .int x1), (2, .int x2)] [] M (F_Duel_standIn_b2 N n x1 x2 M) := by
  intro n
  induction n with
  | zero => intro x1 x2 M; exact mj_none
  | succ n ih =>
    intro x1 x2 M
    rw [F_Duel_standIn_b2]
    refine mj_iload_n (pc := 2) (i := 2) rfl dd_Duel_standIn_2 ?_
    refine mj_bipush (pc := 3) (v := (6 : Int32)) (by decide) dd_Duel_standIn_3 ?_
    refine mj_icmp_ge (pc := 5) (tgt := 69) dd_Duel_standIn_5 rfl (fun h1 => ?_) (fun h1 => ?_)
    · exact mj_vret dd_Duel_standIn_69 rfl rfl
    · refine mj_aload_n (pc := 8) (i := 0) rfl dd_Duel_standIn_8 ?_
      refine mj_getR (pc := 9) (b := 38) (k := 0) qf_Duel_18 sh_38 cl_2 rfl (by decide) (r := 13) rfl dd_Duel_standIn_9 ?_
      refine mj_iload_n (pc := 12) (i := 2) rfl dd_Duel_standIn_12 ?_
      refine mj_callVI (pc := 13) (idx := 26) (b := 13) (As := [.int x2]) (st := []) sh_13 cl_0 ev_Coast_hasTale ql_Duel_26 rfl (Nat.le_of_ble_eq_true rfl) (T_Coast_hasTale (g := g) e (by omega) x2 M) dd_Duel_standIn_13 (fun q2 hq2 => ?_)
      refine mj_istore_n (pc := 16) (by decide) dd_Duel_standIn_16 ?_
      refine mj_L (L' := [(3, .int q2.1), (0, .ref 38), (1, .int x1), (2, .int x2)]) [0, 1, 2, 3] rfl ?_
      refine mj_aload_n (pc := 17) (i := 0) rfl dd_Duel_standIn_17 ?_
      refine mj_getR (pc := 18) (b := 38) (k := 2) qf_Duel_9 sh_38 cl_2 rfl (by decide) (r := 39) rfl dd_Duel_standIn_18 ?_
      refine mj_iload_n (pc := 21) (i := 2) rfl dd_Duel_standIn_21 ?_
      refine mj_iload_n (pc := 22) (i := 3) rfl dd_Duel_standIn_22 ?_
      refine mj_if_eq (pc := 23) (tgt := 38) dd_Duel_standIn_23 rfl (fun h3 => ?_) (fun h3 => ?_)
      · refine mj_iconst (pc := 38) (v := (0 : Int32)) (by decide) dd_Duel_standIn_38 ?_
        refine mj_L (L' := [(0, .ref 38), (1, .int x1), (2, .int x2), (3, .int q2.1)]) [1, 2, 3, 0] rfl ?_
        exact T_Duel_standIn_b39 (g := g) N e he (F_Duel_standIn_b2 N n) ih x1 x2 q2.1 x2 (0 : Int32) q2.2
      · refine mj_aload_n (pc := 26) (i := 0) rfl dd_Duel_standIn_26 ?_
        refine mj_getR (pc := 27) (b := 38) (k := 1) qf_Duel_22 sh_38 cl_2 rfl (by decide) (r := 28) rfl dd_Duel_standIn_27 ?_
        refine mj_iload_n (pc := 30) (i := 1) rfl dd_Duel_standIn_30 ?_
        refine mj_iload_n (pc := 31) (i := 2) rfl dd_Duel_standIn_31 ?_
        refine mj_callVI (pc := 32) (idx := 32) (b := 28) (As := [.int x1, .int x2]) (st := [.int x2, .ref 39]) sh_28 cl_9 ev_Stays_now ql_Duel_32 rfl (Nat.le_of_ble_eq_true rfl) (T_Stays_now (g := g) N e (by omega) x1 x2 q2.2) dd_Duel_standIn_32 (fun q4 hq4 => ?_)
        refine mj_goto (pc := 35) (tgt := 39) dd_Duel_standIn_35 rfl ?_
        refine mj_L (L' := [(0, .ref 38), (1, .int x1), (2, .int x2), (3, .int q2.1)]) [1, 2, 3, 0] rfl ?_
        exact T_Duel_standIn_b39 (g := g) N e he (F_Duel_standIn_b2 N n) ih x1 x2 q2.1 x2 q4.1 q4.2
def F_Duel_standIn (N : Nat) (x1 : Int32) (M : mj_M) : Option (mj_M) :=
    F_Duel_standIn_b2 N N x1 (0 : Int32) M
set_option maxRecDepth 20000 in
theorem T_Duel_standIn {g : mj_G} (N : Nat) : ∀ d, 6 ≤ d → ∀ (x1 : Int32) (M : mj_M), mj_Mt g (mj_qV g) d y_Duel_standIn c_Duel_standIn 4 none [.ref 38, .int x1] M (F_Duel_standIn N x1 M) := by
  intro d hd x1 M
  obtain ⟨e, rfl⟩ : ∃ e, d = e + 1 := ⟨d - 1, by omega⟩
  have he : 5 ≤ e := by omega
  refine mj_met (by decide +kernel) (Nat.le_of_ble_eq_true rfl) ?_
  unfold F_Duel_standIn
  refine mj_L (L' := [(0, .ref 38), (1, .int x1)]) [0, 1] rfl ?_
  refine mj_iconst (pc := 0) (v := (0 : Int32)) (by decide) dd_Duel_standIn_0 ?_
  refine mj_istore_n (pc := 1) (by decide) dd_Duel_standIn_1 ?_
  refine mj_L (L' := [(2, .int (0 : Int32)), (0, .ref 38), (1, .int x1)]) [0, 1, 2] rfl ?_
  refine mj_L (L' := [(0, .ref 38), (1, .int x1), (2, .int (0 : Int32))]) [1, 2, 0] rfl ?_
  exact T_Duel_standIn_b2 (g := g) N e he N x1 (0 : Int32) M
def F_Duel_secondStay (x1 : Int32) (x2 : Int32) (M : mj_M) : Option (Int32 × mj_M) :=
    if x1 = x2 then
     (mj_ck x2 6 (
     some (M 40 x2.toNatClampNeg, M)))
     else
     (mj_ck x2 6 (
     some (M 39 x2.toNatClampNeg, M)))
set_option maxRecDepth 20000 in
theorem T_Duel_secondStay {g : mj_G} : ∀ d, 1 ≤ d → ∀ (x1 : Int32) (x2 : Int32) (M : mj_M), mj_Mt g (mj_qI g) d y_Duel_secondStay c_Duel_secondStay 3 (some .int) [.ref 38, .int x1, .int x2] M (F_Duel_secondStay x1 x2 M) := by
  intro d hd x1 x2 M
  obtain ⟨e, rfl⟩ : ∃ e, d = e + 1 := ⟨d - 1, by omega⟩
  have he : 0 ≤ e := by omega
  refine mj_met (by decide +kernel) (Nat.le_of_ble_eq_true rfl) ?_
  unfold F_Duel_secondStay
  refine mj_L (L' := [(0, .ref 38), (1, .int x1), (2, .int x2)]) [0, 1, 2] rfl ?_
  refine mj_iload_n (pc := 0) (i := 1) rfl dd_Duel_secondStay_0 ?_
  refine mj_iload_n (pc := 1) (i := 2) rfl dd_Duel_secondStay_1 ?_
  refine mj_icmp_ne (pc := 2) (tgt := 14) dd_Duel_secondStay_2 rfl (fun h1 => ?_) (fun h1 => ?_)
  · refine mj_aload_n (pc := 5) (i := 0) rfl dd_Duel_secondStay_5 ?_
    refine mj_getR (pc := 6) (b := 38) (k := 3) qf_Duel_15 sh_38 cl_2 rfl (by decide) (r := 40) rfl dd_Duel_secondStay_6 ?_
    refine mj_iload_n (pc := 9) (i := 2) rfl dd_Duel_secondStay_9 ?_
    refine mj_iald (pc := 10) sh_40 dd_Duel_secondStay_10 ?_
    refine mj_goto (pc := 11) (tgt := 20) dd_Duel_secondStay_11 rfl ?_
    exact mj_iret dd_Duel_secondStay_20 rfl rfl
  · refine mj_aload_n (pc := 14) (i := 0) rfl dd_Duel_secondStay_14 ?_
    refine mj_getR (pc := 15) (b := 38) (k := 2) qf_Duel_9 sh_38 cl_2 rfl (by decide) (r := 39) rfl dd_Duel_secondStay_15 ?_
    refine mj_iload_n (pc := 18) (i := 2) rfl dd_Duel_secondStay_18 ?_
    refine mj_iald (pc := 19) sh_39 dd_Duel_secondStay_19 ?_
    exact mj_iret dd_Duel_secondStay_20 rfl rfl
def F_Duel_has_b10 (x1 : Int32) (x2 : Int32) (s0 : Int32) (M : mj_M) : Option (Int32 × mj_M) :=
    (F_Coast_hasTale x1 M).bind (fun q2 =>
     if q2.1 = (0) then
     (some ((x2 - s0) - (5 : Int32), q2.2))
     else
     (some ((x2 - s0) - (0 : Int32), q2.2)))
set_option maxRecDepth 20000 in
theorem T_Duel_has_b10 {g : mj_G} (e : Nat) (he : 1 ≤ e) (x1 : Int32) (x2 : Int32) (s0 : Int32) (M : mj_M) : mj_X g (mj_qI g) "WinterTellers$Duel" c_Duel_has 5 (some .int) e 10 [(0, .ref 38), (1, .int x1), (2, .int x2)] [.int s0] M (F_Duel_has_b10 x1 x2 s0 M) := by
  unfold F_Duel_has_b10
  refine mj_istore (pc := 10) (by decide) dd_Duel_has_10 ?_
  refine mj_L (L' := [(4, .int s0), (0, .ref 38), (1, .int x1), (2, .int x2)]) [0, 1, 2, 3] rfl ?_
  refine mj_iload_n (pc := 12) (i := 2) rfl dd_Duel_has_12 ?_
  refine mj_iload (pc := 13) (i := 4) rfl dd_Duel_has_13 ?_
  refine mj_isub (pc := 15) dd_Duel_has_15 ?_
  refine mj_aload_n (pc := 16) (i := 0) rfl dd_Duel_has_16 ?_
  refine mj_getR (pc := 17) (b := 38) (k := 0) qf_Duel_18 sh_38 cl_2 rfl (by decide) (r := 13) rfl dd_Duel_has_17 ?_
  refine mj_iload_n (pc := 20) (i := 1) rfl dd_Duel_has_20 ?_
  refine mj_callVI (pc := 21) (idx := 26) (b := 13) (As := [.int x1]) (st := [.int (x2 - s0)]) sh_13 cl_0 ev_Coast_hasTale ql_Duel_26 rfl (Nat.le_of_ble_eq_true rfl) (T_Coast_hasTale (g := g) e (by omega) x1 M) dd_Duel_has_21 (fun q2 hq2 => ?_)
  refine mj_if_eq (pc := 24) (tgt := 31) dd_Duel_has_24 rfl (fun h3 => ?_) (fun h3 => ?_)
  · refine mj_iconst (pc := 31) (v := (5 : Int32)) (by decide) dd_Duel_has_31 ?_
    refine mj_isub (pc := 32) dd_Duel_has_32 ?_
    exact mj_iret dd_Duel_has_33 rfl rfl
  · refine mj_iconst (pc := 27) (v := (0 : Int32)) (by decide) dd_Duel_has_27 ?_
    refine mj_goto (pc := 28) (tgt := 32) dd_Duel_has_28 rfl ?_
    refine mj_isub (pc := 32) dd_Duel_has_32 ?_
    exact mj_iret dd_Duel_has_33 rfl rfl
def F_Duel_has (x1 : Int32) (x2 : Int32) (x3 : Int32) (M : mj_M) : Option (Int32 × mj_M) :=
    if x3 ≤ x2 then
     (F_Duel_has_b10 x1 x2 (0 : Int32) M)
     else
     (F_Duel_has_b10 x1 x2 (3 : Int32) M)
set_option maxRecDepth 20000 in
theorem T_Duel_has {g : mj_G} : ∀ d, 2 ≤ d → ∀ (x1 : Int32) (x2 : Int32) (x3 : Int32) (M : mj_M), mj_Mt g (mj_qI g) d y_Duel_has c_Duel_has 5 (some .int) [.ref 38, .int x1, .int x2, .int x3] M (F_Duel_has x1 x2 x3 M) := by
  intro d hd x1 x2 x3 M
  obtain ⟨e, rfl⟩ : ∃ e, d = e + 1 := ⟨d - 1, by omega⟩
  have he : 1 ≤ e := by omega
  refine mj_met (by decide +kernel) (Nat.le_of_ble_eq_true rfl) ?_
  unfold F_Duel_has
  refine mj_L (L' := [(0, .ref 38), (1, .int x1), (2, .int x2), (3, .int x3)]) [0, 1, 2, 3] rfl ?_
  refine mj_iload_n (pc := 0) (i := 3) rfl dd_Duel_has_0 ?_
  refine mj_iload_n (pc := 1) (i := 2) rfl dd_Duel_has_1 ?_
  refine mj_icmp_le (pc := 2) (tgt := 9) dd_Duel_has_2 rfl (fun h1 => ?_) (fun h1 => ?_)
  · refine mj_iconst (pc := 9) (v := (0 : Int32)) (by decide) dd_Duel_has_9 ?_
    refine mj_L (L' := [(0, .ref 38), (1, .int x1), (2, .int x2)]) [0, 1, 2] rfl ?_
    exact T_Duel_has_b10 (g := g) e he x1 x2 (0 : Int32) M
  · refine mj_iconst (pc := 5) (v := (3 : Int32)) (by decide) dd_Duel_has_5 ?_
    refine mj_goto (pc := 6) (tgt := 10) dd_Duel_has_6 rfl ?_
    refine mj_L (L' := [(0, .ref 38), (1, .int x1), (2, .int x2)]) [0, 1, 2] rfl ?_
    exact T_Duel_has_b10 (g := g) e he x1 x2 (3 : Int32) M
def F_Duel_secondHas (x1 : Int32) (x2 : Int32) (M : mj_M) : Option (Int32 × mj_M) :=
    (F_Duel_secondStay x1 x2 M).bind (fun q1 =>
     mj_ck x1 6 (
     (F_Duel_has x2 q1.1 (q1.2 39 x1.toNatClampNeg) q1.2).bind (fun q2 =>
     some (q2.1, q2.2))))
set_option maxRecDepth 20000 in
theorem T_Duel_secondHas {g : mj_G} : ∀ d, 3 ≤ d → ∀ (x1 : Int32) (x2 : Int32) (M : mj_M), mj_Mt g (mj_qI g) d y_Duel_secondHas c_Duel_secondHas 3 (some .int) [.ref 38, .int x1, .int x2] M (F_Duel_secondHas x1 x2 M) := by
  intro d hd x1 x2 M
  obtain ⟨e, rfl⟩ : ∃ e, d = e + 1 := ⟨d - 1, by omega⟩
  have he : 2 ≤ e := by omega
  refine mj_met (by decide +kernel) (Nat.le_of_ble_eq_true rfl) ?_
  unfold F_Duel_secondHas
  refine mj_L (L' := [(0, .ref 38), (1, .int x1), (2, .int x2)]) [0, 1, 2] rfl ?_
  refine mj_aload_n (pc := 0) (i := 0) rfl dd_Duel_secondHas_0 ?_
  refine mj_iload_n (pc := 1) (i := 2) rfl dd_Duel_secondHas_1 ?_
  refine mj_aload_n (pc := 2) (i := 0) rfl dd_Duel_secondHas_2 ?_
  refine mj_iload_n (pc := 3) (i := 1) rfl dd_Duel_secondHas_3 ?_
  refine mj_iload_n (pc := 4) (i := 2) rfl dd_Duel_secondHas_4 ?_
  refine mj_callVI (pc := 5) (idx := 39) (b := 38) (As := [.int x1, .int x2]) (st := [.int x2, .ref 38]) sh_38 cl_2 ev_Duel_secondStay ql_Duel_39 rfl (Nat.le_of_ble_eq_true rfl) (T_Duel_secondStay (g := g) e (by omega) x1 x2 M) dd_Duel_secondHas_5 (fun q1 hq1 => ?_)
  refine mj_aload_n (pc := 8) (i := 0) rfl dd_Duel_secondHas_8 ?_
  refine mj_getR (pc := 9) (b := 38) (k := 2) qf_Duel_9 sh_38 cl_2 rfl (by decide) (r := 39) rfl dd_Duel_secondHas_9 ?_
  refine mj_iload_n (pc := 12) (i := 1) rfl dd_Duel_secondHas_12 ?_
  refine mj_iald (pc := 13) sh_39 dd_Duel_secondHas_13 ?_
  refine mj_callVI (pc := 14) (idx := 42) (b := 38) (As := [.int x2, .int q1.1, .int (q1.2 39 x1.toNatClampNeg)]) (st := []) sh_38 cl_2 ev_Duel_has ql_Duel_42 rfl (Nat.le_of_ble_eq_true rfl) (T_Duel_has (g := g) e (by omega) x2 q1.1 (q1.2 39 x1.toNatClampNeg) q1.2) dd_Duel_secondHas_14 (fun q2 hq2 => ?_)
  exact mj_iret dd_Duel_secondHas_17 rfl rfl
def F_Duel_firstHas (x1 : Int32) (x2 : Int32) (M : mj_M) : Option (Int32 × mj_M) :=
    mj_ck x1 6 (
     (F_Duel_secondStay x1 x2 M).bind (fun q1 =>
     (F_Duel_has x1 (M 39 x1.toNatClampNeg) q1.1 q1.2).bind (fun q2 =>
     some (q2.1, q2.2))))
set_option maxRecDepth 20000 in
theorem T_Duel_firstHas {g : mj_G} : ∀ d, 3 ≤ d → ∀ (x1 : Int32) (x2 : Int32) (M : mj_M), mj_Mt g (mj_qI g) d y_Duel_firstHas c_Duel_firstHas 3 (some .int) [.ref 38, .int x1, .int x2] M (F_Duel_firstHas x1 x2 M) := by
  intro d hd x1 x2 M
  obtain ⟨e, rfl⟩ : ∃ e, d = e + 1 := ⟨d - 1, by omega⟩
  have he : 2 ≤ e := by omega
  refine mj_met (by decide +kernel) (Nat.le_of_ble_eq_true rfl) ?_
  unfold F_Duel_firstHas
  refine mj_L (L' := [(0, .ref 38), (1, .int x1), (2, .int x2)]) [0, 1, 2] rfl ?_
  refine mj_aload_n (pc := 0) (i := 0) rfl dd_Duel_firstHas_0 ?_
  refine mj_iload_n (pc := 1) (i := 1) rfl dd_Duel_firstHas_1 ?_
  refine mj_aload_n (pc := 2) (i := 0) rfl dd_Duel_firstHas_2 ?_
  refine mj_getR (pc := 3) (b := 38) (k := 2) qf_Duel_9 sh_38 cl_2 rfl (by decide) (r := 39) rfl dd_Duel_firstHas_3 ?_
  refine mj_iload_n (pc := 6) (i := 1) rfl dd_Duel_firstHas_6 ?_
  refine mj_iald (pc := 7) sh_39 dd_Duel_firstHas_7 ?_
  refine mj_aload_n (pc := 8) (i := 0) rfl dd_Duel_firstHas_8 ?_
  refine mj_iload_n (pc := 9) (i := 1) rfl dd_Duel_firstHas_9 ?_
  refine mj_iload_n (pc := 10) (i := 2) rfl dd_Duel_firstHas_10 ?_
  refine mj_callVI (pc := 11) (idx := 39) (b := 38) (As := [.int x1, .int x2]) (st := [.int (M 39 x1.toNatClampNeg), .int x1, .ref 38]) sh_38 cl_2 ev_Duel_secondStay ql_Duel_39 rfl (Nat.le_of_ble_eq_true rfl) (T_Duel_secondStay (g := g) e (by omega) x1 x2 M) dd_Duel_firstHas_11 (fun q1 hq1 => ?_)
  refine mj_callVI (pc := 14) (idx := 42) (b := 38) (As := [.int x1, .int (M 39 x1.toNatClampNeg), .int q1.1]) (st := []) sh_38 cl_2 ev_Duel_has ql_Duel_42 rfl (Nat.le_of_ble_eq_true rfl) (T_Duel_has (g := g) e (by omega) x1 (M 39 x1.toNatClampNeg) q1.1 q1.2) dd_Duel_firstHas_14 (fun q2 hq2 => ?_)
  exact mj_iret dd_Duel_firstHas_17 rfl rfl
def F_W_game (N : Nat) (x1 : Int32) (x2 : Int32) (x3 : Int32) (x4 : Int32) (M : mj_M) : Option (Int32 × mj_M) :=
    (F_Coast_hasHouse x1 M).bind (fun q1 =>
     if q1.1 = (0) then
     (some ((-1000000 : Int32), q1.2))
     else
     (if x2 < (0) then
     (some ((-1000000 : Int32), q1.2))
     else
     (if (6 : Int32) ≤ x2 then
     (some ((-1000000 : Int32), q1.2))
     else
     (if x3 < (0) then
     (some ((-1000000 : Int32), q1.2))
     else
     (if (6 : Int32) ≤ x3 then
     (some ((-1000000 : Int32), q1.2))
     else
     (if x4 < (0) then
     (some ((-1000000 : Int32), q1.2))
     else
     (if x4 ≤ (1 : Int32) then
     ((F_Duel_standIn N x1 q1.2).bind (fun q9 =>
     if x4 = (0) then
     ((F_Duel_firstHas x2 x3 q9).bind (fun q12 =>
     some (q12.1, q12.2)))
     else
     ((F_Duel_secondHas x2 x3 q9).bind (fun q11 =>
     some (q11.1, q11.2)))))
     else
     (some ((-1000000 : Int32), q1.2)))))))))
set_option maxRecDepth 20000 in
theorem T_W_game {g : mj_G} (N : Nat) : ∀ d, 7 ≤ d → ∀ (x1 : Int32) (x2 : Int32) (x3 : Int32) (x4 : Int32) (M : mj_M), mj_Mt g (mj_qI g) d y_W_game c_W_game 5 (some .int) [.ref 0, .int x1, .int x2, .int x3, .int x4] M (F_W_game N x1 x2 x3 x4 M) := by
  intro d hd x1 x2 x3 x4 M
  obtain ⟨e, rfl⟩ : ∃ e, d = e + 1 := ⟨d - 1, by omega⟩
  have he : 6 ≤ e := by omega
  refine mj_met (by decide +kernel) (Nat.le_of_ble_eq_true rfl) ?_
  unfold F_W_game
  refine mj_L (L' := [(0, .ref 0), (1, .int x1), (2, .int x2), (3, .int x3), (4, .int x4)]) [0, 1, 2, 3, 4] rfl ?_
  refine mj_aload_n (pc := 0) (i := 0) rfl dd_W_game_0 ?_
  refine mj_getR (pc := 1) (b := 0) (k := 4) qf_W_42 sh_0 cl_11 rfl (by decide) (r := 13) rfl dd_W_game_1 ?_
  refine mj_iload_n (pc := 4) (i := 1) rfl dd_W_game_4 ?_
  refine mj_callVI (pc := 5) (idx := 150) (b := 13) (As := [.int x1]) (st := []) sh_13 cl_0 ev_Coast_hasHouse ql_W_150 rfl (Nat.le_of_ble_eq_true rfl) (T_Coast_hasHouse (g := g) e (by omega) x1 M) dd_W_game_5 (fun q1 hq1 => ?_)
  refine mj_if_eq (pc := 8) (tgt := 42) dd_W_game_8 rfl (fun h2 => ?_) (fun h2 => ?_)
  · refine mj_ldcw (pc := 42) qc_W_314 dd_W_game_42 ?_
    exact mj_iret dd_W_game_45 rfl rfl
  · refine mj_iload_n (pc := 11) (i := 2) rfl dd_W_game_11 ?_
    refine mj_if_lt (pc := 12) (tgt := 42) dd_W_game_12 rfl (fun h3 => ?_) (fun h3 => ?_)
    · refine mj_ldcw (pc := 42) qc_W_314 dd_W_game_42 ?_
      exact mj_iret dd_W_game_45 rfl rfl
    · refine mj_iload_n (pc := 15) (i := 2) rfl dd_W_game_15 ?_
      refine mj_bipush (pc := 16) (v := (6 : Int32)) (by decide) dd_W_game_16 ?_
      refine mj_icmp_ge (pc := 18) (tgt := 42) dd_W_game_18 rfl (fun h4 => ?_) (fun h4 => ?_)
      · refine mj_ldcw (pc := 42) qc_W_314 dd_W_game_42 ?_
        exact mj_iret dd_W_game_45 rfl rfl
      · refine mj_iload_n (pc := 21) (i := 3) rfl dd_W_game_21 ?_
        refine mj_if_lt (pc := 22) (tgt := 42) dd_W_game_22 rfl (fun h5 => ?_) (fun h5 => ?_)
        · refine mj_ldcw (pc := 42) qc_W_314 dd_W_game_42 ?_
          exact mj_iret dd_W_game_45 rfl rfl
        · refine mj_iload_n (pc := 25) (i := 3) rfl dd_W_game_25 ?_
          refine mj_bipush (pc := 26) (v := (6 : Int32)) (by decide) dd_W_game_26 ?_
          refine mj_icmp_ge (pc := 28) (tgt := 42) dd_W_game_28 rfl (fun h6 => ?_) (fun h6 => ?_)
          · refine mj_ldcw (pc := 42) qc_W_314 dd_W_game_42 ?_
            exact mj_iret dd_W_game_45 rfl rfl
          · refine mj_iload (pc := 31) (i := 4) rfl dd_W_game_31 ?_
            refine mj_if_lt (pc := 33) (tgt := 42) dd_W_game_33 rfl (fun h7 => ?_) (fun h7 => ?_)
            · refine mj_ldcw (pc := 42) qc_W_314 dd_W_game_42 ?_
              exact mj_iret dd_W_game_45 rfl rfl
            · refine mj_iload (pc := 36) (i := 4) rfl dd_W_game_36 ?_
              refine mj_iconst (pc := 38) (v := (1 : Int32)) (by decide) dd_W_game_38 ?_
              refine mj_icmp_le (pc := 39) (tgt := 46) dd_W_game_39 rfl (fun h8 => ?_) (fun h8 => ?_)
              · refine mj_aload_n (pc := 46) (i := 0) rfl dd_W_game_46 ?_
                refine mj_getR (pc := 47) (b := 0) (k := 10) qf_W_90 sh_0 cl_11 rfl (by decide) (r := 38) rfl dd_W_game_47 ?_
                refine mj_iload_n (pc := 50) (i := 1) rfl dd_W_game_50 ?_
                refine mj_callVV (pc := 51) (idx := 315) (b := 38) (As := [.int x1]) (st := []) sh_38 cl_2 ev_Duel_standIn ql_W_315 rfl (Nat.le_of_ble_eq_true rfl) (T_Duel_standIn (g := g) N e (by omega) x1 q1.2) dd_W_game_51 (fun q9 hq9 => ?_)
                refine mj_iload (pc := 54) (i := 4) rfl dd_W_game_54 ?_
                refine mj_if_ne (pc := 56) (tgt := 71) dd_W_game_56 rfl (fun h10 => ?_) (fun h10 => ?_)
                · refine mj_aload_n (pc := 59) (i := 0) rfl dd_W_game_59 ?_
                  refine mj_getR (pc := 60) (b := 0) (k := 10) qf_W_90 sh_0 cl_11 rfl (by decide) (r := 38) rfl dd_W_game_60 ?_
                  refine mj_iload_n (pc := 63) (i := 2) rfl dd_W_game_63 ?_
                  refine mj_iload_n (pc := 64) (i := 3) rfl dd_W_game_64 ?_
                  refine mj_callVI (pc := 65) (idx := 318) (b := 38) (As := [.int x2, .int x3]) (st := []) sh_38 cl_2 ev_Duel_firstHas ql_W_318 rfl (Nat.le_of_ble_eq_true rfl) (T_Duel_firstHas (g := g) e (by omega) x2 x3 q9) dd_W_game_65 (fun q12 hq12 => ?_)
                  refine mj_goto (pc := 68) (tgt := 80) dd_W_game_68 rfl ?_
                  exact mj_iret dd_W_game_80 rfl rfl
                · refine mj_aload_n (pc := 71) (i := 0) rfl dd_W_game_71 ?_
                  refine mj_getR (pc := 72) (b := 0) (k := 10) qf_W_90 sh_0 cl_11 rfl (by decide) (r := 38) rfl dd_W_game_72 ?_
                  refine mj_iload_n (pc := 75) (i := 2) rfl dd_W_game_75 ?_
                  refine mj_iload_n (pc := 76) (i := 3) rfl dd_W_game_76 ?_
                  refine mj_callVI (pc := 77) (idx := 321) (b := 38) (As := [.int x2, .int x3]) (st := []) sh_38 cl_2 ev_Duel_secondHas ql_W_321 rfl (Nat.le_of_ble_eq_true rfl) (T_Duel_secondHas (g := g) e (by omega) x2 x3 q9) dd_W_game_77 (fun q11 hq11 => ?_)
                  exact mj_iret dd_W_game_80 rfl rfl
              · refine mj_ldcw (pc := 42) qc_W_314 dd_W_game_42 ?_
                exact mj_iret dd_W_game_45 rfl rfl
def F_M_gameOf_b125 (N : Nat) (s0 : Int32) (s2 : Int32) (M : mj_M) : Option (Int32 × mj_M) :=
    (F_M_isTale s2 M).bind (fun q13 =>
     if q13.1 = (0) then
     (some (s0 - (5 : Int32), q13.2))
     else
     (some (s0 - (0 : Int32), q13.2)))
set_option maxRecDepth 20000 in
theorem T_M_gameOf_b125 {g : mj_G} (N : Nat) (e : Nat) (he : 6 ≤ e) (s0 : Int32) (s2 : Int32) (M : mj_M) : mj_X g (mj_qI g) "WinterTellersModel" c_M_gameOf 9 (some .int) e 125 [] [.int s2, .ref 48, .int s0] M (F_M_gameOf_b125 N s0 s2 M) := by
  unfold F_M_gameOf_b125
  refine mj_callVI (pc := 125) (idx := 306) (b := 48) (As := [.int s2]) (st := [.int s0]) sh_48 cl_12 ev_M_isTale ql_M_306 rfl (Nat.le_of_ble_eq_true rfl) (T_M_isTale (g := g) e (by omega) s2 M) dd_M_gameOf_125 (fun q13 hq13 => ?_)
  refine mj_if_eq (pc := 128) (tgt := 135) dd_M_gameOf_128 rfl (fun h14 => ?_) (fun h14 => ?_)
  · refine mj_iconst (pc := 135) (v := (5 : Int32)) (by decide) dd_M_gameOf_135 ?_
    refine mj_isub (pc := 136) dd_M_gameOf_136 ?_
    exact mj_iret dd_M_gameOf_137 rfl rfl
  · refine mj_iconst (pc := 131) (v := (0 : Int32)) (by decide) dd_M_gameOf_131 ?_
    refine mj_goto (pc := 132) (tgt := 136) dd_M_gameOf_132 rfl ?_
    refine mj_isub (pc := 136) dd_M_gameOf_136 ?_
    exact mj_iret dd_M_gameOf_137 rfl rfl
def F_M_gameOf_b113 (N : Nat) (x2 : Int32) (x3 : Int32) (x4 : Int32) (s0 : Int32) (s1 : Int32) (M : mj_M) : Option (Int32 × mj_M) :=
    if x4 = (0) then
     (F_M_gameOf_b125 N (s0 - s1) x2 M)
     else
     (F_M_gameOf_b125 N (s0 - s1) x3 M)
set_option maxRecDepth 20000 in
theorem T_M_gameOf_b113 {g : mj_G} (N : Nat) (e : Nat) (he : 6 ≤ e) (x2 : Int32) (x3 : Int32) (x4 : Int32) (s0 : Int32) (s1 : Int32) (M : mj_M) : mj_X g (mj_qI g) "WinterTellersModel" c_M_gameOf 9 (some .int) e 113 [(0, .ref 48), (2, .int x2), (3, .int x3), (4, .int x4)] [.int s1, .int s0] M (F_M_gameOf_b113 N x2 x3 x4 s0 s1 M) := by
  unfold F_M_gameOf_b113
  refine mj_isub (pc := 113) dd_M_gameOf_113 ?_
  refine mj_aload_n (pc := 114) (i := 0) rfl dd_M_gameOf_114 ?_
  refine mj_iload (pc := 115) (i := 4) rfl dd_M_gameOf_115 ?_
  refine mj_if_ne (pc := 117) (tgt := 124) dd_M_gameOf_117 rfl (fun h12 => ?_) (fun h12 => ?_)
  · refine mj_iload_n (pc := 120) (i := 2) rfl dd_M_gameOf_120 ?_
    refine mj_goto (pc := 121) (tgt := 125) dd_M_gameOf_121 rfl ?_
    refine mj_L (L' := []) [] rfl ?_
    exact T_M_gameOf_b125 (g := g) N e he (s0 - s1) x2 M
  · refine mj_iload_n (pc := 124) (i := 3) rfl dd_M_gameOf_124 ?_
    refine mj_L (L' := []) [] rfl ?_
    exact T_M_gameOf_b125 (g := g) N e he (s0 - s1) x3 M
def F_M_gameOf_b97 (N : Nat) (x2 : Int32) (x3 : Int32) (x4 : Int32) (x7 : Int32) (s0 : Int32) (M : mj_M) : Option (Int32 × mj_M) :=
    if s0 ≤ x7 then
     (F_M_gameOf_b113 N x2 x3 x4 x7 (0 : Int32) M)
     else
     (F_M_gameOf_b113 N x2 x3 x4 x7 (3 : Int32) M)
set_option maxRecDepth 20000 in
theorem T_M_gameOf_b97 {g : mj_G} (N : Nat) (e : Nat) (he : 6 ≤ e) (x2 : Int32) (x3 : Int32) (x4 : Int32) (x7 : Int32) (s0 : Int32) (M : mj_M) : mj_X g (mj_qI g) "WinterTellersModel" c_M_gameOf 9 (some .int) e 97 [(0, .ref 48), (2, .int x2), (3, .int x3), (4, .int x4), (7, .int x7)] [.int s0] M (F_M_gameOf_b97 N x2 x3 x4 x7 s0 M) := by
  unfold F_M_gameOf_b97
  refine mj_istore (pc := 97) (by decide) dd_M_gameOf_97 ?_
  refine mj_L (L' := [(8, .int s0), (0, .ref 48), (2, .int x2), (3, .int x3), (4, .int x4), (7, .int x7)]) [0, 1, 2, 3, 4, 5] rfl ?_
  refine mj_iload (pc := 99) (i := 7) rfl dd_M_gameOf_99 ?_
  refine mj_iload (pc := 101) (i := 8) rfl dd_M_gameOf_101 ?_
  refine mj_iload (pc := 103) (i := 7) rfl dd_M_gameOf_103 ?_
  refine mj_icmp_le (pc := 105) (tgt := 112) dd_M_gameOf_105 rfl (fun h11 => ?_) (fun h11 => ?_)
  · refine mj_iconst (pc := 112) (v := (0 : Int32)) (by decide) dd_M_gameOf_112 ?_
    refine mj_L (L' := [(0, .ref 48), (2, .int x2), (3, .int x3), (4, .int x4)]) [1, 2, 3, 4] rfl ?_
    exact T_M_gameOf_b113 (g := g) N e he x2 x3 x4 x7 (0 : Int32) M
  · refine mj_iconst (pc := 108) (v := (3 : Int32)) (by decide) dd_M_gameOf_108 ?_
    refine mj_goto (pc := 109) (tgt := 113) dd_M_gameOf_109 rfl ?_
    refine mj_L (L' := [(0, .ref 48), (2, .int x2), (3, .int x3), (4, .int x4)]) [1, 2, 3, 4] rfl ?_
    exact T_M_gameOf_b113 (g := g) N e he x2 x3 x4 x7 (3 : Int32) M
def F_M_gameOf_b83 (N : Nat) (x2 : Int32) (x3 : Int32) (x4 : Int32) (x5 : Int32) (x6 : Int32) (s0 : Int32) (M : mj_M) : Option (Int32 × mj_M) :=
    if x4 = (0) then
     (F_M_gameOf_b97 N x2 x3 x4 s0 x6 M)
     else
     (F_M_gameOf_b97 N x2 x3 x4 s0 x5 M)
set_option maxRecDepth 20000 in
theorem T_M_gameOf_b83 {g : mj_G} (N : Nat) (e : Nat) (he : 6 ≤ e) (x2 : Int32) (x3 : Int32) (x4 : Int32) (x5 : Int32) (x6 : Int32) (s0 : Int32) (M : mj_M) : mj_X g (mj_qI g) "WinterTellersModel" c_M_gameOf 9 (some .int) e 83 [(0, .ref 48), (2, .int x2), (3, .int x3), (4, .int x4), (5, .int x5), (6, .int x6)] [.int s0] M (F_M_gameOf_b83 N x2 x3 x4 x5 x6 s0 M) := by
  unfold F_M_gameOf_b83
  refine mj_istore (pc := 83) (by decide) dd_M_gameOf_83 ?_
  refine mj_L (L' := [(7, .int s0), (0, .ref 48), (2, .int x2), (3, .int x3), (4, .int x4), (5, .int x5), (6, .int x6)]) [0, 1, 2, 3, 4, 5, 6] rfl ?_
  refine mj_iload (pc := 85) (i := 4) rfl dd_M_gameOf_85 ?_
  refine mj_if_ne (pc := 87) (tgt := 95) dd_M_gameOf_87 rfl (fun h10 => ?_) (fun h10 => ?_)
  · refine mj_iload (pc := 90) (i := 6) rfl dd_M_gameOf_90 ?_
    refine mj_goto (pc := 92) (tgt := 97) dd_M_gameOf_92 rfl ?_
    refine mj_L (L' := [(0, .ref 48), (2, .int x2), (3, .int x3), (4, .int x4), (7, .int s0)]) [1, 2, 3, 4, 0] rfl ?_
    exact T_M_gameOf_b97 (g := g) N e he x2 x3 x4 s0 x6 M
  · refine mj_iload (pc := 95) (i := 5) rfl dd_M_gameOf_95 ?_
    refine mj_L (L' := [(0, .ref 48), (2, .int x2), (3, .int x3), (4, .int x4), (7, .int s0)]) [1, 2, 3, 4, 0] rfl ?_
    exact T_M_gameOf_b97 (g := g) N e he x2 x3 x4 s0 x5 M
def F_M_gameOf_b69 (N : Nat) (x2 : Int32) (x3 : Int32) (x4 : Int32) (x5 : Int32) (s0 : Int32) (M : mj_M) : Option (Int32 × mj_M) :=
    if x4 = (0) then
     (F_M_gameOf_b83 N x2 x3 x4 x5 s0 x5 M)
     else
     (F_M_gameOf_b83 N x2 x3 x4 x5 s0 s0 M)
set_option maxRecDepth 20000 in
theorem T_M_gameOf_b69 {g : mj_G} (N : Nat) (e : Nat) (he : 6 ≤ e) (x2 : Int32) (x3 : Int32) (x4 : Int32) (x5 : Int32) (s0 : Int32) (M : mj_M) : mj_X g (mj_qI g) "WinterTellersModel" c_M_gameOf 9 (some .int) e 69 [(0, .ref 48), (2, .int x2), (3, .int x3), (4, .int x4), (5, .int x5)] [.int s0] M (F_M_gameOf_b69 N x2 x3 x4 x5 s0 M) := by
  unfold F_M_gameOf_b69
  refine mj_istore (pc := 69) (by decide) dd_M_gameOf_69 ?_
  refine mj_L (L' := [(6, .int s0), (0, .ref 48), (2, .int x2), (3, .int x3), (4, .int x4), (5, .int x5)]) [0, 1, 2, 3, 4, 5] rfl ?_
  refine mj_iload (pc := 71) (i := 4) rfl dd_M_gameOf_71 ?_
  refine mj_if_ne (pc := 73) (tgt := 81) dd_M_gameOf_73 rfl (fun h9 => ?_) (fun h9 => ?_)
  · refine mj_iload (pc := 76) (i := 5) rfl dd_M_gameOf_76 ?_
    refine mj_goto (pc := 78) (tgt := 83) dd_M_gameOf_78 rfl ?_
    refine mj_L (L' := [(0, .ref 48), (2, .int x2), (3, .int x3), (4, .int x4), (5, .int x5), (6, .int s0)]) [1, 2, 3, 4, 5, 0] rfl ?_
    exact T_M_gameOf_b83 (g := g) N e he x2 x3 x4 x5 s0 x5 M
  · refine mj_iload (pc := 81) (i := 6) rfl dd_M_gameOf_81 ?_
    refine mj_L (L' := [(0, .ref 48), (2, .int x2), (3, .int x3), (4, .int x4), (5, .int x5), (6, .int s0)]) [1, 2, 3, 4, 5, 0] rfl ?_
    exact T_M_gameOf_b83 (g := g) N e he x2 x3 x4 x5 s0 s0 M
def F_M_gameOf_b62 (N : Nat) (x2 : Int32) (x3 : Int32) (x4 : Int32) (x5 : Int32) (s1 : Int32) (s2 : Int32) (s3 : Int32) (s4 : Int32) (s5 : Int32) (s6 : Int32) (M : mj_M) : Option (Int32 × mj_M) :=
    (F_M_nightsBy N s1 s2 s3 (mj_min s4 (s5 + s6)) M).bind (fun q8 =>
     F_M_gameOf_b69 N x2 x3 x4 x5 q8.1 q8.2)
set_option maxRecDepth 20000 in
theorem T_M_gameOf_b62 {g : mj_G} (N : Nat) (e : Nat) (he : 6 ≤ e) (x2 : Int32) (x3 : Int32) (x4 : Int32) (x5 : Int32) (s1 : Int32) (s2 : Int32) (s3 : Int32) (s4 : Int32) (s5 : Int32) (s6 : Int32) (M : mj_M) : mj_X g (mj_qI g) "WinterTellersModel" c_M_gameOf 9 (some .int) e 62 [(0, .ref 48), (2, .int x2), (3, .int x3), (4, .int x4), (5, .int x5)] [.int s6, .int s5, .int s4, .int s3, .int s2, .int s1, .ref 48] M (F_M_gameOf_b62 N x2 x3 x4 x5 s1 s2 s3 s4 s5 s6 M) := by
  unfold F_M_gameOf_b62
  refine mj_iadd (pc := 62) dd_M_gameOf_62 ?_
  refine mj_mmin (pc := 63) (idx := 273) qm_M_273 (Nat.le_of_ble_eq_true rfl) dd_M_gameOf_63 ?_
  refine mj_callVI (pc := 66) (idx := 280) (b := 48) (As := [.int s1, .int s2, .int s3, .int (mj_min s4 (s5 + s6))]) (st := []) sh_48 cl_12 ev_M_nightsBy ql_M_280 rfl (Nat.le_of_ble_eq_true rfl) (T_M_nightsBy (g := g) N e (by omega) s1 s2 s3 (mj_min s4 (s5 + s6)) M) dd_M_gameOf_66 (fun q8 hq8 => ?_)
  refine mj_L (L' := [(0, .ref 48), (2, .int x2), (3, .int x3), (4, .int x4), (5, .int x5)]) [0, 1, 2, 3, 4] rfl ?_
  exact T_M_gameOf_b69 (g := g) N e he x2 x3 x4 x5 q8.1 q8.2
def F_M_gameOf_b18 (N : Nat) (x1 : Int32) (x2 : Int32) (x3 : Int32) (x4 : Int32) (s0 : Int32) (M : mj_M) : Option (Int32 × mj_M) :=
    (F_M_isTale x3 M).bind (fun q4 =>
     if q4.1 = (0) then
     (F_M_gameOf_b69 N x2 x3 x4 s0 (0 : Int32) q4.2)
     else
     (mj_ck ((36 : Int32) + x3) 229 (
     (F_M_heardOf x1 x3 q4.2).bind (fun q6 =>
     if x2 = x3 then
     (F_M_gameOf_b62 N x2 x3 x4 s0 x1 x3 (q4.2 65 ((36 : Int32) + x3).toNatClampNeg) (99 : Int32) q6.1 (1 : Int32) q6.2)
     else
     (F_M_gameOf_b62 N x2 x3 x4 s0 x1 x3 (q4.2 65 ((36 : Int32) + x3).toNatClampNeg) (99 : Int32) q6.1 (0 : Int32) q6.2)))))
set_option maxRecDepth 20000 in
theorem T_M_gameOf_b18 {g : mj_G} (N : Nat) (e : Nat) (he : 6 ≤ e) (x1 : Int32) (x2 : Int32) (x3 : Int32) (x4 : Int32) (s0 : Int32) (M : mj_M) : mj_X g (mj_qI g) "WinterTellersModel" c_M_gameOf 9 (some .int) e 18 [(0, .ref 48), (1, .int x1), (2, .int x2), (3, .int x3), (4, .int x4)] [.int s0] M (F_M_gameOf_b18 N x1 x2 x3 x4 s0 M) := by
  unfold F_M_gameOf_b18
  refine mj_istore (pc := 18) (by decide) dd_M_gameOf_18 ?_
  refine mj_L (L' := [(5, .int s0), (0, .ref 48), (1, .int x1), (2, .int x2), (3, .int x3), (4, .int x4)]) [0, 1, 2, 3, 4, 5] rfl ?_
  refine mj_aload_n (pc := 20) (i := 0) rfl dd_M_gameOf_20 ?_
  refine mj_iload_n (pc := 21) (i := 3) rfl dd_M_gameOf_21 ?_
  refine mj_callVI (pc := 22) (idx := 306) (b := 48) (As := [.int x3]) (st := []) sh_48 cl_12 ev_M_isTale ql_M_306 rfl (Nat.le_of_ble_eq_true rfl) (T_M_isTale (g := g) e (by omega) x3 M) dd_M_gameOf_22 (fun q4 hq4 => ?_)
  refine mj_if_ne (pc := 25) (tgt := 32) dd_M_gameOf_25 rfl (fun h5 => ?_) (fun h5 => ?_)
  · refine mj_iconst (pc := 28) (v := (0 : Int32)) (by decide) dd_M_gameOf_28 ?_
    refine mj_goto (pc := 29) (tgt := 69) dd_M_gameOf_29 rfl ?_
    refine mj_L (L' := [(0, .ref 48), (2, .int x2), (3, .int x3), (4, .int x4), (5, .int s0)]) [1, 3, 4, 5, 0] rfl ?_
    exact T_M_gameOf_b69 (g := g) N e he x2 x3 x4 s0 (0 : Int32) q4.2
  · refine mj_aload_n (pc := 32) (i := 0) rfl dd_M_gameOf_32 ?_
    refine mj_iload_n (pc := 33) (i := 1) rfl dd_M_gameOf_33 ?_
    refine mj_iload_n (pc := 34) (i := 3) rfl dd_M_gameOf_34 ?_
    refine mj_aload_n (pc := 35) (i := 0) rfl dd_M_gameOf_35 ?_
    refine mj_getR (pc := 36) (b := 48) (k := 27) qf_M_58 sh_48 cl_12 rfl (by decide) (r := 65) rfl dd_M_gameOf_36 ?_
    refine mj_bipush (pc := 39) (v := (36 : Int32)) (by decide) dd_M_gameOf_39 ?_
    refine mj_iload_n (pc := 41) (i := 3) rfl dd_M_gameOf_41 ?_
    refine mj_iadd (pc := 42) dd_M_gameOf_42 ?_
    refine mj_iald (pc := 43) sh_65 dd_M_gameOf_43 ?_
    refine mj_bipush (pc := 44) (v := (99 : Int32)) (by decide) dd_M_gameOf_44 ?_
    refine mj_aload_n (pc := 46) (i := 0) rfl dd_M_gameOf_46 ?_
    refine mj_iload_n (pc := 47) (i := 1) rfl dd_M_gameOf_47 ?_
    refine mj_iload_n (pc := 48) (i := 3) rfl dd_M_gameOf_48 ?_
    refine mj_callVI (pc := 49) (idx := 277) (b := 48) (As := [.int x1, .int x3]) (st := [.int (99 : Int32), .int (q4.2 65 ((36 : Int32) + x3).toNatClampNeg), .int x3, .int x1, .ref 48]) sh_48 cl_12 ev_M_heardOf ql_M_277 rfl (Nat.le_of_ble_eq_true rfl) (T_M_heardOf (g := g) e (by omega) x1 x3 q4.2) dd_M_gameOf_49 (fun q6 hq6 => ?_)
    refine mj_iload_n (pc := 52) (i := 2) rfl dd_M_gameOf_52 ?_
    refine mj_iload_n (pc := 53) (i := 3) rfl dd_M_gameOf_53 ?_
    refine mj_icmp_ne (pc := 54) (tgt := 61) dd_M_gameOf_54 rfl (fun h7 => ?_) (fun h7 => ?_)
    · refine mj_iconst (pc := 57) (v := (1 : Int32)) (by decide) dd_M_gameOf_57 ?_
      refine mj_goto (pc := 58) (tgt := 62) dd_M_gameOf_58 rfl ?_
      refine mj_L (L' := [(0, .ref 48), (2, .int x2), (3, .int x3), (4, .int x4), (5, .int s0)]) [1, 3, 4, 5, 0] rfl ?_
      exact T_M_gameOf_b62 (g := g) N e he x2 x3 x4 s0 x1 x3 (q4.2 65 ((36 : Int32) + x3).toNatClampNeg) (99 : Int32) q6.1 (1 : Int32) q6.2
    · refine mj_iconst (pc := 61) (v := (0 : Int32)) (by decide) dd_M_gameOf_61 ?_
      refine mj_L (L' := [(0, .ref 48), (2, .int x2), (3, .int x3), (4, .int x4), (5, .int s0)]) [1, 3, 4, 5, 0] rfl ?_
      exact T_M_gameOf_b62 (g := g) N e he x2 x3 x4 s0 x1 x3 (q4.2 65 ((36 : Int32) + x3).toNatClampNeg) (99 : Int32) q6.1 (0 : Int32) q6.2
def F_M_gameOf (N : Nat) (x1 : Int32) (x2 : Int32) (x3 : Int32) (x4 : Int32) (M : mj_M) : Option (Int32 × mj_M) :=
    (F_M_isTale x2 M).bind (fun q1 =>
     if q1.1 = (0) then
     (F_M_gameOf_b18 N x1 x2 x3 x4 (0 : Int32) q1.2)
     else
     ((F_M_nightsNow N x1 x2 q1.2).bind (fun q3 =>
     F_M_gameOf_b18 N x1 x2 x3 x4 q3.1 q3.2)))
set_option maxRecDepth 20000 in
theorem T_M_gameOf {g : mj_G} (N : Nat) : ∀ d, 7 ≤ d → ∀ (x1 : Int32) (x2 : Int32) (x3 : Int32) (x4 : Int32) (M : mj_M), mj_Mt g (mj_qI g) d y_M_gameOf c_M_gameOf 9 (some .int) [.ref 48, .int x1, .int x2, .int x3, .int x4] M (F_M_gameOf N x1 x2 x3 x4 M) := by
  intro d hd x1 x2 x3 x4 M
  obtain ⟨e, rfl⟩ : ∃ e, d = e + 1 := ⟨d - 1, by omega⟩
  have he : 6 ≤ e := by omega
  refine mj_met (by decide +kernel) (Nat.le_of_ble_eq_true rfl) ?_
  unfold F_M_gameOf
  refine mj_L (L' := [(0, .ref 48), (1, .int x1), (2, .int x2), (3, .int x3), (4, .int x4)]) [0, 1, 2, 3, 4] rfl ?_
  refine mj_aload_n (pc := 0) (i := 0) rfl dd_M_gameOf_0 ?_
  refine mj_iload_n (pc := 1) (i := 2) rfl dd_M_gameOf_1 ?_
  refine mj_callVI (pc := 2) (idx := 306) (b := 48) (As := [.int x2]) (st := []) sh_48 cl_12 ev_M_isTale ql_M_306 rfl (Nat.le_of_ble_eq_true rfl) (T_M_isTale (g := g) e (by omega) x2 M) dd_M_gameOf_2 (fun q1 hq1 => ?_)
  refine mj_if_eq (pc := 5) (tgt := 17) dd_M_gameOf_5 rfl (fun h2 => ?_) (fun h2 => ?_)
  · refine mj_iconst (pc := 17) (v := (0 : Int32)) (by decide) dd_M_gameOf_17 ?_
    refine mj_L (L' := [(0, .ref 48), (1, .int x1), (2, .int x2), (3, .int x3), (4, .int x4)]) [0, 1, 2, 3, 4] rfl ?_
    exact T_M_gameOf_b18 (g := g) N e he x1 x2 x3 x4 (0 : Int32) q1.2
  · refine mj_aload_n (pc := 8) (i := 0) rfl dd_M_gameOf_8 ?_
    refine mj_iload_n (pc := 9) (i := 1) rfl dd_M_gameOf_9 ?_
    refine mj_iload_n (pc := 10) (i := 2) rfl dd_M_gameOf_10 ?_
    refine mj_callVI (pc := 11) (idx := 284) (b := 48) (As := [.int x1, .int x2]) (st := []) sh_48 cl_12 ev_M_nightsNow ql_M_284 rfl (Nat.le_of_ble_eq_true rfl) (T_M_nightsNow (g := g) N e (by omega) x1 x2 q1.2) dd_M_gameOf_11 (fun q3 hq3 => ?_)
    refine mj_goto (pc := 14) (tgt := 18) dd_M_gameOf_14 rfl ?_
    refine mj_L (L' := [(0, .ref 48), (1, .int x1), (2, .int x2), (3, .int x3), (4, .int x4)]) [0, 1, 2, 3, 4] rfl ?_
    exact T_M_gameOf_b18 (g := g) N e he x1 x2 x3 x4 q3.1 q3.2
def F_M_game (N : Nat) (x1 : Int32) (x2 : Int32) (x3 : Int32) (x4 : Int32) (M : mj_M) : Option (Int32 × mj_M) :=
    (F_M_isHouse x1 M).bind (fun q1 =>
     if q1.1 = (0) then
     (some ((-1000000 : Int32), q1.2))
     else
     ((F_M_in x2 (0 : Int32) (5 : Int32) q1.2).bind (fun q3 =>
     if q3.1 = (0) then
     (some ((-1000000 : Int32), q3.2))
     else
     ((F_M_in x3 (0 : Int32) (5 : Int32) q3.2).bind (fun q5 =>
     if q5.1 = (0) then
     (some ((-1000000 : Int32), q5.2))
     else
     ((F_M_in x4 (0 : Int32) (1 : Int32) q5.2).bind (fun q7 =>
     if q7.1 = (0) then
     (some ((-1000000 : Int32), q7.2))
     else
     ((F_M_gameOf N x1 x2 x3 x4 q7.2).bind (fun q9 =>
     some (q9.1, q9.2))))))))))
set_option maxRecDepth 20000 in
theorem T_M_game {g : mj_G} (N : Nat) : ∀ d, 8 ≤ d → ∀ (x1 : Int32) (x2 : Int32) (x3 : Int32) (x4 : Int32) (M : mj_M), mj_Mt g (mj_qI g) d y_M_game c_M_game 5 (some .int) [.ref 48, .int x1, .int x2, .int x3, .int x4] M (F_M_game N x1 x2 x3 x4 M) := by
  intro d hd x1 x2 x3 x4 M
  obtain ⟨e, rfl⟩ : ∃ e, d = e + 1 := ⟨d - 1, by omega⟩
  have he : 7 ≤ e := by omega
  refine mj_met (by decide +kernel) (Nat.le_of_ble_eq_true rfl) ?_
  unfold F_M_game
  refine mj_L (L' := [(0, .ref 48), (1, .int x1), (2, .int x2), (3, .int x3), (4, .int x4)]) [0, 1, 2, 3, 4] rfl ?_
  refine mj_aload_n (pc := 0) (i := 0) rfl dd_M_game_0 ?_
  refine mj_iload_n (pc := 1) (i := 1) rfl dd_M_game_1 ?_
  refine mj_callVI (pc := 2) (idx := 300) (b := 48) (As := [.int x1]) (st := []) sh_48 cl_12 ev_M_isHouse ql_M_300 rfl (Nat.le_of_ble_eq_true rfl) (T_M_isHouse (g := g) e (by omega) x1 M) dd_M_game_2 (fun q1 hq1 => ?_)
  refine mj_if_eq (pc := 5) (tgt := 36) dd_M_game_5 rfl (fun h2 => ?_) (fun h2 => ?_)
  · refine mj_ldcw (pc := 36) qc_M_383 dd_M_game_36 ?_
    exact mj_iret dd_M_game_39 rfl rfl
  · refine mj_iload_n (pc := 8) (i := 2) rfl dd_M_game_8 ?_
    refine mj_iconst (pc := 9) (v := (0 : Int32)) (by decide) dd_M_game_9 ?_
    refine mj_iconst (pc := 10) (v := (5 : Int32)) (by decide) dd_M_game_10 ?_
    refine mj_callSI (pc := 11) (idx := 205) (As := [.int x2, .int (0 : Int32), .int (5 : Int32)]) (st := []) es_M_in ql_M_205 rfl (Nat.le_of_ble_eq_true rfl) (T_M_in (g := g) e (by omega) x2 (0 : Int32) (5 : Int32) q1.2) dd_M_game_11 (fun q3 hq3 => ?_)
    refine mj_if_eq (pc := 14) (tgt := 36) dd_M_game_14 rfl (fun h4 => ?_) (fun h4 => ?_)
    · refine mj_ldcw (pc := 36) qc_M_383 dd_M_game_36 ?_
      exact mj_iret dd_M_game_39 rfl rfl
    · refine mj_iload_n (pc := 17) (i := 3) rfl dd_M_game_17 ?_
      refine mj_iconst (pc := 18) (v := (0 : Int32)) (by decide) dd_M_game_18 ?_
      refine mj_iconst (pc := 19) (v := (5 : Int32)) (by decide) dd_M_game_19 ?_
      refine mj_callSI (pc := 20) (idx := 205) (As := [.int x3, .int (0 : Int32), .int (5 : Int32)]) (st := []) es_M_in ql_M_205 rfl (Nat.le_of_ble_eq_true rfl) (T_M_in (g := g) e (by omega) x3 (0 : Int32) (5 : Int32) q3.2) dd_M_game_20 (fun q5 hq5 => ?_)
      refine mj_if_eq (pc := 23) (tgt := 36) dd_M_game_23 rfl (fun h6 => ?_) (fun h6 => ?_)
      · refine mj_ldcw (pc := 36) qc_M_383 dd_M_game_36 ?_
        exact mj_iret dd_M_game_39 rfl rfl
      · refine mj_iload (pc := 26) (i := 4) rfl dd_M_game_26 ?_
        refine mj_iconst (pc := 28) (v := (0 : Int32)) (by decide) dd_M_game_28 ?_
        refine mj_iconst (pc := 29) (v := (1 : Int32)) (by decide) dd_M_game_29 ?_
        refine mj_callSI (pc := 30) (idx := 205) (As := [.int x4, .int (0 : Int32), .int (1 : Int32)]) (st := []) es_M_in ql_M_205 rfl (Nat.le_of_ble_eq_true rfl) (T_M_in (g := g) e (by omega) x4 (0 : Int32) (1 : Int32) q5.2) dd_M_game_30 (fun q7 hq7 => ?_)
        refine mj_if_ne (pc := 33) (tgt := 40) dd_M_game_33 rfl (fun h8 => ?_) (fun h8 => ?_)
        · refine mj_ldcw (pc := 36) qc_M_383 dd_M_game_36 ?_
          exact mj_iret dd_M_game_39 rfl rfl
        · refine mj_aload_n (pc := 40) (i := 0) rfl dd_M_game_40 ?_
          refine mj_iload_n (pc := 41) (i := 1) rfl dd_M_game_41 ?_
          refine mj_iload_n (pc := 42) (i := 2) rfl dd_M_game_42 ?_
          refine mj_iload_n (pc := 43) (i := 3) rfl dd_M_game_43 ?_
          refine mj_iload (pc := 44) (i := 4) rfl dd_M_game_44 ?_
          refine mj_callVI (pc := 46) (idx := 384) (b := 48) (As := [.int x1, .int x2, .int x3, .int x4]) (st := []) sh_48 cl_12 ev_M_gameOf ql_M_384 rfl (Nat.le_of_ble_eq_true rfl) (T_M_gameOf (g := g) N e (by omega) x1 x2 x3 x4 q7.2) dd_M_game_46 (fun q9 hq9 => ?_)
          exact mj_iret dd_M_game_49 rfl rfl
def F_Duel_isQuiet_b18 (N : Nat) : Nat → Int32 → Int32 → Int32 → Int32 → Int32 → mj_M → Option (Int32 × mj_M)
  | 0, _, _, _, _, _, _ => none
  | n + 1, x1, x2, x3, x4, x5, M =>
    if (M 13 1) ≤ x5 then
     (some ((1 : Int32), M))
     else
     ((F_Duel_firstHas x5 x2 M).bind (fun q4 =>
     if x3 < q4.1 then
     (some ((0 : Int32), q4.2))
     else
     ((F_Duel_secondHas x1 x5 q4.2).bind (fun q6 =>
     if q6.1 ≤ x4 then
     (F_Duel_isQuiet_b18 N n x1 x2 x3 x4 (x5 + (1 : Int32)) q6.2)
     else
     (some ((0 : Int32), q6.2))))))
set_option maxRecDepth 20000 in
theorem T_Duel_isQuiet_b18 {g : mj_G} (N : Nat) (e : Nat) (he : 3 ≤ e) : ∀ (n : Nat) (x1 : Int32) (x2 : Int32) (x3 : Int32) (x4 : Int32) (x5 : Int32) (M : mj_M), mj_X g (mj_qI g) "WinterTellers$Duel" c_Duel_isQuiet 6 (some .boolean) e 18 [(0, .ref 38), (1, .int x1), (2, .int x2), (3, .int x3), (4, .int x4), (5, .int x5)] [] M (F_Duel_isQuiet_b18 N n x1 x2 x3 x4 x5 M) := by
  intro n
  induction n with
  | zero => intro x1 x2 x3 x4 x5 M; exact mj_none
  | succ n ih =>
    intro x1 x2 x3 x4 x5 M
    rw [F_Duel_isQuiet_b18]
    refine mj_iload (pc := 18) (i := 5) rfl dd_Duel_isQuiet_18 ?_
    refine mj_aload_n (pc := 20) (i := 0) rfl dd_Duel_isQuiet_20 ?_
    refine mj_getR (pc := 21) (b := 38) (k := 0) qf_Duel_18 sh_38 cl_2 rfl (by decide) (r := 13) rfl dd_Duel_isQuiet_21 ?_
    refine mj_getI (pc := 24) (b := 13) (k := 1) qf_Duel_52 sh_13 cl_0 rfl (by decide) rfl dd_Duel_isQuiet_24 ?_
    refine mj_icmp_ge (pc := 27) (tgt := 61) dd_Duel_isQuiet_27 rfl (fun h3 => ?_) (fun h3 => ?_)
    · refine mj_iconst (pc := 61) (v := (1 : Int32)) (by decide) dd_Duel_isQuiet_61 ?_
      exact mj_zret (by decide) dd_Duel_isQuiet_62 rfl rfl
    · refine mj_aload_n (pc := 30) (i := 0) rfl dd_Duel_isQuiet_30 ?_
      refine mj_iload (pc := 31) (i := 5) rfl dd_Duel_isQuiet_31 ?_
      refine mj_iload_n (pc := 33) (i := 2) rfl dd_Duel_isQuiet_33 ?_
      refine mj_callVI (pc := 34) (idx := 46) (b := 38) (As := [.int x5, .int x2]) (st := []) sh_38 cl_2 ev_Duel_firstHas ql_Duel_46 rfl (Nat.le_of_ble_eq_true rfl) (T_Duel_firstHas (g := g) e (by omega) x5 x2 M) dd_Duel_isQuiet_34 (fun q4 hq4 => ?_)
      refine mj_iload_n (pc := 37) (i := 3) rfl dd_Duel_isQuiet_37 ?_
      refine mj_icmp_gt (pc := 38) (tgt := 53) dd_Duel_isQuiet_38 rfl (fun h5 => ?_) (fun h5 => ?_)
      · refine mj_iconst (pc := 53) (v := (0 : Int32)) (by decide) dd_Duel_isQuiet_53 ?_
        exact mj_zret (by decide) dd_Duel_isQuiet_54 rfl rfl
      · refine mj_aload_n (pc := 41) (i := 0) rfl dd_Duel_isQuiet_41 ?_
        refine mj_iload_n (pc := 42) (i := 1) rfl dd_Duel_isQuiet_42 ?_
        refine mj_iload (pc := 43) (i := 5) rfl dd_Duel_isQuiet_43 ?_
        refine mj_callVI (pc := 45) (idx := 49) (b := 38) (As := [.int x1, .int x5]) (st := []) sh_38 cl_2 ev_Duel_secondHas ql_Duel_49 rfl (Nat.le_of_ble_eq_true rfl) (T_Duel_secondHas (g := g) e (by omega) x1 x5 q4.2) dd_Duel_isQuiet_45 (fun q6 hq6 => ?_)
        refine mj_iload (pc := 48) (i := 4) rfl dd_Duel_isQuiet_48 ?_
        refine mj_icmp_le (pc := 50) (tgt := 55) dd_Duel_isQuiet_50 rfl (fun h7 => ?_) (fun h7 => ?_)
        · refine mj_iinc (pc := 55) (i := 5) (z := (1 : Int32)) rfl (by decide) (by decide) dd_Duel_isQuiet_55 ?_
          refine mj_L (L' := [(5, .int (x5 + (1 : Int32))), (0, .ref 38), (1, .int x1), (2, .int x2), (3, .int x3), (4, .int x4)]) [0, 1, 2, 3, 4, 5] rfl ?_
          refine mj_goto (pc := 58) (tgt := 18) dd_Duel_isQuiet_58 rfl ?_
          refine mj_L (L' := [(0, .ref 38), (1, .int x1), (2, .int x2), (3, .int x3), (4, .int x4), (5, .int (x5 + (1 : Int32)))]) [1, 2, 3, 4, 5, 0] rfl ?_
          exact ih x1 x2 x3 x4 (x5 + (1 : Int32)) q6.2
        · refine mj_iconst (pc := 53) (v := (0 : Int32)) (by decide) dd_Duel_isQuiet_53 ?_
          exact mj_zret (by decide) dd_Duel_isQuiet_54 rfl rfl
def F_Duel_isQuiet (N : Nat) (x1 : Int32) (x2 : Int32) (M : mj_M) : Option (Int32 × mj_M) :=
    (F_Duel_firstHas x1 x2 M).bind (fun q1 =>
     (F_Duel_secondHas x1 x2 q1.2).bind (fun q2 =>
     F_Duel_isQuiet_b18 N N x1 x2 q1.1 q2.1 (0 : Int32) q2.2))
set_option maxRecDepth 20000 in
theorem T_Duel_isQuiet {g : mj_G} (N : Nat) : ∀ d, 4 ≤ d → ∀ (x1 : Int32) (x2 : Int32) (M : mj_M), mj_Mt g (mj_qI g) d y_Duel_isQuiet c_Duel_isQuiet 6 (some .boolean) [.ref 38, .int x1, .int x2] M (F_Duel_isQuiet N x1 x2 M) := by
  intro d hd x1 x2 M
  obtain ⟨e, rfl⟩ : ∃ e, d = e + 1 := ⟨d - 1, by omega⟩
  have he : 3 ≤ e := by omega
  refine mj_met (by decide +kernel) (Nat.le_of_ble_eq_true rfl) ?_
  unfold F_Duel_isQuiet
  refine mj_L (L' := [(0, .ref 38), (1, .int x1), (2, .int x2)]) [0, 1, 2] rfl ?_
  refine mj_aload_n (pc := 0) (i := 0) rfl dd_Duel_isQuiet_0 ?_
  refine mj_iload_n (pc := 1) (i := 1) rfl dd_Duel_isQuiet_1 ?_
  refine mj_iload_n (pc := 2) (i := 2) rfl dd_Duel_isQuiet_2 ?_
  refine mj_callVI (pc := 3) (idx := 46) (b := 38) (As := [.int x1, .int x2]) (st := []) sh_38 cl_2 ev_Duel_firstHas ql_Duel_46 rfl (Nat.le_of_ble_eq_true rfl) (T_Duel_firstHas (g := g) e (by omega) x1 x2 M) dd_Duel_isQuiet_3 (fun q1 hq1 => ?_)
  refine mj_istore_n (pc := 6) (by decide) dd_Duel_isQuiet_6 ?_
  refine mj_L (L' := [(3, .int q1.1), (0, .ref 38), (1, .int x1), (2, .int x2)]) [0, 1, 2, 3] rfl ?_
  refine mj_aload_n (pc := 7) (i := 0) rfl dd_Duel_isQuiet_7 ?_
  refine mj_iload_n (pc := 8) (i := 1) rfl dd_Duel_isQuiet_8 ?_
  refine mj_iload_n (pc := 9) (i := 2) rfl dd_Duel_isQuiet_9 ?_
  refine mj_callVI (pc := 10) (idx := 49) (b := 38) (As := [.int x1, .int x2]) (st := []) sh_38 cl_2 ev_Duel_secondHas ql_Duel_49 rfl (Nat.le_of_ble_eq_true rfl) (T_Duel_secondHas (g := g) e (by omega) x1 x2 q1.2) dd_Duel_isQuiet_10 (fun q2 hq2 => ?_)
  refine mj_istore (pc := 13) (by decide) dd_Duel_isQuiet_13 ?_
  refine mj_L (L' := [(4, .int q2.1), (3, .int q1.1), (0, .ref 38), (1, .int x1), (2, .int x2)]) [0, 1, 2, 3, 4] rfl ?_
  refine mj_iconst (pc := 15) (v := (0 : Int32)) (by decide) dd_Duel_isQuiet_15 ?_
  refine mj_istore (pc := 16) (by decide) dd_Duel_isQuiet_16 ?_
  refine mj_L (L' := [(5, .int (0 : Int32)), (4, .int q2.1), (3, .int q1.1), (0, .ref 38), (1, .int x1), (2, .int x2)]) [0, 1, 2, 3, 4, 5] rfl ?_
  refine mj_L (L' := [(0, .ref 38), (1, .int x1), (2, .int x2), (3, .int q1.1), (4, .int q2.1), (5, .int (0 : Int32))]) [3, 4, 5, 2, 1, 0] rfl ?_
  exact T_Duel_isQuiet_b18 (g := g) N e he N x1 x2 q1.1 q2.1 (0 : Int32) q2.2
def F_Duel_quietPair_b18 (N : Nat) (k4 : Int32 → Int32 → Int32 → mj_M → Option (Int32 × mj_M)) : Nat → Int32 → Int32 → Int32 → Int32 → mj_M → Option (Int32 × mj_M)
  | 0, _, _, _, _, _ => none
  | n + 1, x1, x2, x3, x4, M =>
    if (M 13 1) ≤ x4 then
     (k4 x1 x2 (x3 + (1 : Int32)) M)
     else
     ((F_Duel_isQuiet N x3 x4 M).bind (fun q4 =>
     if q4.1 = (0) then
     (F_Duel_quietPair_b18 N k4 n x1 x2 x3 (x4 + (1 : Int32)) q4.2)
     else
     (if x2 = x1 then
     (some (((10 : Int32) * x3) + x4, q4.2))
     else
     (F_Duel_quietPair_b18 N k4 n x1 (x2 + (1 : Int32)) x3 (x4 + (1 : Int32)) q4.2))))
set_option maxRecDepth 20000 in
theorem T_Duel_quietPair_b18 {g : mj_G} (N : Nat) (e : Nat) (he : 4 ≤ e) (k4 : Int32 → Int32 → Int32 → mj_M → Option (Int32 × mj_M)) (hk4 : ∀ (x1 : Int32) (x2 : Int32) (x3 : Int32) (M : mj_M), mj_X g (mj_qI g) "WinterTellers$Duel" c_Duel_quietPair 5 (some .int) e 4 [(0, .ref 38), (1, .int x1), (2, .int x2), (3, .int x3)] [] M (k4 x1 x2 x3 M)) : ∀ (n : Nat) (x1 : Int32) (x2 : Int32) (x3 : Int32) (x4 : Int32) (M : mj_M), mj_X g (mj_qI g) "WinterTellers$Duel" c_Duel_quietPair 5 (some .int) e 18 [(0, .ref 38), (1, .int x1), (2, .int x2), (3, .int x3), (4, .int x4)] [] M (F_Duel_quietPair_b18 N k4 n x1 x2 x3 x4 M) := by
  intro n
  induction n with
  | zero => intro x1 x2 x3 x4 M; exact mj_none
  | succ n ih =>
    intro x1 x2 x3 x4 M
    rw [F_Duel_quietPair_b18]
    refine mj_iload (pc := 18) (i := 4) rfl dd_Duel_quietPair_18 ?_
    refine mj_aload_n (pc := 20) (i := 0) rfl dd_Duel_quietPair_20 ?_
    refine mj_getR (pc := 21) (b := 38) (k := 0) qf_Duel_18 sh_38 cl_2 rfl (by decide) (r := 13) rfl dd_Duel_quietPair_21 ?_
    refine mj_getI (pc := 24) (b := 13) (k := 1) qf_Duel_52 sh_13 cl_0 rfl (by decide) rfl dd_Duel_quietPair_24 ?_
    refine mj_icmp_ge (pc := 27) (tgt := 62) dd_Duel_quietPair_27 rfl (fun h3 => ?_) (fun h3 => ?_)
    · refine mj_iinc (pc := 62) (i := 3) (z := (1 : Int32)) rfl (by decide) (by decide) dd_Duel_quietPair_62 ?_
      refine mj_L (L' := [(3, .int (x3 + (1 : Int32))), (0, .ref 38), (1, .int x1), (2, .int x2)]) [0, 1, 2, 3] rfl ?_
      refine mj_goto (pc := 65) (tgt := 4) dd_Duel_quietPair_65 rfl ?_
      refine mj_L (L' := [(0, .ref 38), (1, .int x1), (2, .int x2), (3, .int (x3 + (1 : Int32)))]) [1, 2, 3, 0] rfl ?_
      exact hk4 x1 x2 (x3 + (1 : Int32)) M
    · refine mj_aload_n (pc := 30) (i := 0) rfl dd_Duel_quietPair_30 ?_
      refine mj_iload_n (pc := 31) (i := 3) rfl dd_Duel_quietPair_31 ?_
      refine mj_iload (pc := 32) (i := 4) rfl dd_Duel_quietPair_32 ?_
      refine mj_callVI (pc := 34) (idx := 56) (b := 38) (As := [.int x3, .int x4]) (st := []) sh_38 cl_2 ev_Duel_isQuiet ql_Duel_56 rfl (Nat.le_of_ble_eq_true rfl) (T_Duel_isQuiet (g := g) N e (by omega) x3 x4 M) dd_Duel_quietPair_34 (fun q4 hq4 => ?_)
      refine mj_if_eq (pc := 37) (tgt := 56) dd_Duel_quietPair_37 rfl (fun h5 => ?_) (fun h5 => ?_)
      · refine mj_iinc (pc := 56) (i := 4) (z := (1 : Int32)) rfl (by decide) (by decide) dd_Duel_quietPair_56 ?_
        refine mj_L (L' := [(4, .int (x4 + (1 : Int32))), (0, .ref 38), (1, .int x1), (2, .int x2), (3, .int x3)]) [0, 1, 2, 3, 4] rfl ?_
        refine mj_goto (pc := 59) (tgt := 18) dd_Duel_quietPair_59 rfl ?_
        refine mj_L (L' := [(0, .ref 38), (1, .int x1), (2, .int x2), (3, .int x3), (4, .int (x4 + (1 : Int32)))]) [1, 2, 3, 4, 0] rfl ?_
        exact ih x1 x2 x3 (x4 + (1 : Int32)) q4.2
      · refine mj_iload_n (pc := 40) (i := 2) rfl dd_Duel_quietPair_40 ?_
        refine mj_iload_n (pc := 41) (i := 1) rfl dd_Duel_quietPair_41 ?_
        refine mj_icmp_ne (pc := 42) (tgt := 53) dd_Duel_quietPair_42 rfl (fun h6 => ?_) (fun h6 => ?_)
        · refine mj_bipush (pc := 45) (v := (10 : Int32)) (by decide) dd_Duel_quietPair_45 ?_
          refine mj_iload_n (pc := 47) (i := 3) rfl dd_Duel_quietPair_47 ?_
          refine mj_imul (pc := 48) dd_Duel_quietPair_48 ?_
          refine mj_iload (pc := 49) (i := 4) rfl dd_Duel_quietPair_49 ?_
          refine mj_iadd (pc := 51) dd_Duel_quietPair_51 ?_
          exact mj_iret dd_Duel_quietPair_52 rfl rfl
        · refine mj_iinc (pc := 53) (i := 2) (z := (1 : Int32)) rfl (by decide) (by decide) dd_Duel_quietPair_53 ?_
          refine mj_L (L' := [(2, .int (x2 + (1 : Int32))), (0, .ref 38), (1, .int x1), (3, .int x3), (4, .int x4)]) [0, 1, 2, 3, 4] rfl ?_
          refine mj_iinc (pc := 56) (i := 4) (z := (1 : Int32)) rfl (by decide) (by decide) dd_Duel_quietPair_56 ?_
          refine mj_L (L' := [(4, .int (x4 + (1 : Int32))), (2, .int (x2 + (1 : Int32))), (0, .ref 38), (1, .int x1), (3, .int x3)]) [0, 1, 2, 3, 4] rfl ?_
          refine mj_goto (pc := 59) (tgt := 18) dd_Duel_quietPair_59 rfl ?_
          refine mj_L (L' := [(0, .ref 38), (1, .int x1), (2, .int (x2 + (1 : Int32))), (3, .int x3), (4, .int (x4 + (1 : Int32)))]) [2, 3, 1, 4, 0] rfl ?_
          exact ih x1 (x2 + (1 : Int32)) x3 (x4 + (1 : Int32)) q4.2
def F_Duel_quietPair_b4 (N : Nat) : Nat → Int32 → Int32 → Int32 → mj_M → Option (Int32 × mj_M)
  | 0, _, _, _, _ => none
  | n + 1, x1, x2, x3, M =>
    if (M 13 1) ≤ x3 then
     (if x1 = (-1 : Int32) then
     (some (x2, M))
     else
     (some ((-1 : Int32), M)))
     else
     (F_Duel_quietPair_b18 N (F_Duel_quietPair_b4 N n) N x1 x2 x3 (0 : Int32) M)
set_option maxRecDepth 20000 in
theorem T_Duel_quietPair_b4 {g : mj_G} (N : Nat) (e : Nat) (he : 4 ≤ e) : ∀ (n : Nat) (x1 : Int32) (x2 : Int32) (x3 : Int32) (M : mj_M), mj_X g (mj_qI g) "WinterTellers$Duel" c_Duel_quietPair 5 (some .int) e 4 [(0, .ref 38), (1, .int x1), (2, .int x2), (3, .int x3)] [] M (F_Duel_quietPair_b4 N n x1 x2 x3 M) := by
  intro n
  induction n with
  | zero => intro x1 x2 x3 M; exact mj_none
  | succ n ih =>
    intro x1 x2 x3 M
    rw [F_Duel_quietPair_b4]
    refine mj_iload_n (pc := 4) (i := 3) rfl dd_Duel_quietPair_4 ?_
    refine mj_aload_n (pc := 5) (i := 0) rfl dd_Duel_quietPair_5 ?_
    refine mj_getR (pc := 6) (b := 38) (k := 0) qf_Duel_18 sh_38 cl_2 rfl (by decide) (r := 13) rfl dd_Duel_quietPair_6 ?_
    refine mj_getI (pc := 9) (b := 13) (k := 1) qf_Duel_52 sh_13 cl_0 rfl (by decide) rfl dd_Duel_quietPair_9 ?_
    refine mj_icmp_ge (pc := 12) (tgt := 68) dd_Duel_quietPair_12 rfl (fun h1 => ?_) (fun h1 => ?_)
    · refine mj_iload_n (pc := 68) (i := 1) rfl dd_Duel_quietPair_68 ?_
      refine mj_iconst (pc := 69) (v := (-1 : Int32)) (by decide) dd_Duel_quietPair_69 ?_
      refine mj_icmp_ne (pc := 70) (tgt := 77) dd_Duel_quietPair_70 rfl (fun h2 => ?_) (fun h2 => ?_)
      · refine mj_iload_n (pc := 73) (i := 2) rfl dd_Duel_quietPair_73 ?_
        refine mj_goto (pc := 74) (tgt := 78) dd_Duel_quietPair_74 rfl ?_
        exact mj_iret dd_Duel_quietPair_78 rfl rfl
      · refine mj_iconst (pc := 77) (v := (-1 : Int32)) (by decide) dd_Duel_quietPair_77 ?_
        exact mj_iret dd_Duel_quietPair_78 rfl rfl
    · refine mj_iconst (pc := 15) (v := (0 : Int32)) (by decide) dd_Duel_quietPair_15 ?_
      refine mj_istore (pc := 16) (by decide) dd_Duel_quietPair_16 ?_
      refine mj_L (L' := [(4, .int (0 : Int32)), (0, .ref 38), (1, .int x1), (2, .int x2), (3, .int x3)]) [0, 1, 2, 3, 4] rfl ?_
      refine mj_L (L' := [(0, .ref 38), (1, .int x1), (2, .int x2), (3, .int x3), (4, .int (0 : Int32))]) [1, 2, 3, 4, 0] rfl ?_
      exact T_Duel_quietPair_b18 (g := g) N e he (F_Duel_quietPair_b4 N n) ih N x1 x2 x3 (0 : Int32) M
def F_Duel_quietPair (N : Nat) (x1 : Int32) (M : mj_M) : Option (Int32 × mj_M) :=
    F_Duel_quietPair_b4 N N x1 (0 : Int32) (0 : Int32) M
set_option maxRecDepth 20000 in
theorem T_Duel_quietPair {g : mj_G} (N : Nat) : ∀ d, 5 ≤ d → ∀ (x1 : Int32) (M : mj_M), mj_Mt g (mj_qI g) d y_Duel_quietPair c_Duel_quietPair 5 (some .int) [.ref 38, .int x1] M (F_Duel_quietPair N x1 M) := by
  intro d hd x1 M
  obtain ⟨e, rfl⟩ : ∃ e, d = e + 1 := ⟨d - 1, by omega⟩
  have he : 4 ≤ e := by omega
  refine mj_met (by decide +kernel) (Nat.le_of_ble_eq_true rfl) ?_
  unfold F_Duel_quietPair
  refine mj_L (L' := [(0, .ref 38), (1, .int x1)]) [0, 1] rfl ?_
  refine mj_iconst (pc := 0) (v := (0 : Int32)) (by decide) dd_Duel_quietPair_0 ?_
  refine mj_istore_n (pc := 1) (by decide) dd_Duel_quietPair_1 ?_
  refine mj_L (L' := [(2, .int (0 : Int32)), (0, .ref 38), (1, .int x1)]) [0, 1, 2] rfl ?_
  refine mj_iconst (pc := 2) (v := (0 : Int32)) (by decide) dd_Duel_quietPair_2 ?_
  refine mj_istore_n (pc := 3) (by decide) dd_Duel_quietPair_3 ?_
  refine mj_L (L' := [(3, .int (0 : Int32)), (2, .int (0 : Int32)), (0, .ref 38), (1, .int x1)]) [0, 1, 2, 3] rfl ?_
  refine mj_L (L' := [(0, .ref 38), (1, .int x1), (2, .int (0 : Int32)), (3, .int (0 : Int32))]) [2, 3, 1, 0] rfl ?_
  exact T_Duel_quietPair_b4 (g := g) N e he N x1 (0 : Int32) (0 : Int32) M
def F_W_rests (N : Nat) (x1 : Int32) (x2 : Int32) (M : mj_M) : Option (Int32 × mj_M) :=
    (F_Coast_hasHouse x1 M).bind (fun q1 =>
     if q1.1 = (0) then
     (some ((-1 : Int32), q1.2))
     else
     ((F_Duel_standIn N x1 q1.2).bind (fun q3 =>
     (F_Duel_quietPair N x2 q3).bind (fun q4 =>
     some (q4.1, q4.2)))))
set_option maxRecDepth 20000 in
theorem T_W_rests {g : mj_G} (N : Nat) : ∀ d, 7 ≤ d → ∀ (x1 : Int32) (x2 : Int32) (M : mj_M), mj_Mt g (mj_qI g) d y_W_rests c_W_rests 3 (some .int) [.ref 0, .int x1, .int x2] M (F_W_rests N x1 x2 M) := by
  intro d hd x1 x2 M
  obtain ⟨e, rfl⟩ : ∃ e, d = e + 1 := ⟨d - 1, by omega⟩
  have he : 6 ≤ e := by omega
  refine mj_met (by decide +kernel) (Nat.le_of_ble_eq_true rfl) ?_
  unfold F_W_rests
  refine mj_L (L' := [(0, .ref 0), (1, .int x1), (2, .int x2)]) [0, 1, 2] rfl ?_
  refine mj_aload_n (pc := 0) (i := 0) rfl dd_W_rests_0 ?_
  refine mj_getR (pc := 1) (b := 0) (k := 4) qf_W_42 sh_0 cl_11 rfl (by decide) (r := 13) rfl dd_W_rests_1 ?_
  refine mj_iload_n (pc := 4) (i := 1) rfl dd_W_rests_4 ?_
  refine mj_callVI (pc := 5) (idx := 150) (b := 13) (As := [.int x1]) (st := []) sh_13 cl_0 ev_Coast_hasHouse ql_W_150 rfl (Nat.le_of_ble_eq_true rfl) (T_Coast_hasHouse (g := g) e (by omega) x1 M) dd_W_rests_5 (fun q1 hq1 => ?_)
  refine mj_if_ne (pc := 8) (tgt := 13) dd_W_rests_8 rfl (fun h2 => ?_) (fun h2 => ?_)
  · refine mj_iconst (pc := 11) (v := (-1 : Int32)) (by decide) dd_W_rests_11 ?_
    exact mj_iret dd_W_rests_12 rfl rfl
  · refine mj_aload_n (pc := 13) (i := 0) rfl dd_W_rests_13 ?_
    refine mj_getR (pc := 14) (b := 0) (k := 10) qf_W_90 sh_0 cl_11 rfl (by decide) (r := 38) rfl dd_W_rests_14 ?_
    refine mj_iload_n (pc := 17) (i := 1) rfl dd_W_rests_17 ?_
    refine mj_callVV (pc := 18) (idx := 315) (b := 38) (As := [.int x1]) (st := []) sh_38 cl_2 ev_Duel_standIn ql_W_315 rfl (Nat.le_of_ble_eq_true rfl) (T_Duel_standIn (g := g) N e (by omega) x1 q1.2) dd_W_rests_18 (fun q3 hq3 => ?_)
    refine mj_aload_n (pc := 21) (i := 0) rfl dd_W_rests_21 ?_
    refine mj_getR (pc := 22) (b := 0) (k := 10) qf_W_90 sh_0 cl_11 rfl (by decide) (r := 38) rfl dd_W_rests_22 ?_
    refine mj_iload_n (pc := 25) (i := 2) rfl dd_W_rests_25 ?_
    refine mj_callVI (pc := 26) (idx := 324) (b := 38) (As := [.int x2]) (st := []) sh_38 cl_2 ev_Duel_quietPair ql_W_324 rfl (Nat.le_of_ble_eq_true rfl) (T_Duel_quietPair (g := g) N e (by omega) x2 q3) dd_W_rests_26 (fun q4 hq4 => ?_)
    exact mj_iret dd_W_rests_29 rfl rfl
