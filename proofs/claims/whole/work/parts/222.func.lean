/-! ===== functions and their proofs ===== -/
def F_M_nightsOfAll_b4 (N : Nat) : Nat → Int32 → Int32 → Int32 → mj_M → Option (Int32 × mj_M)
  | 0, _, _, _, _ => none
  | n + 1, x1, x2, x3, M =>
    if (M 48 26) ≤ x3 then
     (some (x2, M))
     else
     ((F_M_owns x3 M).bind (fun q2 =>
     if q2.1 = (0) then
     (mj_lt (x2 + (0 : Int32)) (fun v4 =>
     F_M_nightsOfAll_b4 N n x1 v4 (x3 + (1 : Int32)) q2.2))
     else
     ((F_M_nightsNow N x1 x3 q2.2).bind (fun q5 =>
     mj_lt (x2 + q5.1) (fun v6 =>
     F_M_nightsOfAll_b4 N n x1 v6 (x3 + (1 : Int32)) q5.2)))))
set_option maxRecDepth 20000 in
theorem T_M_nightsOfAll_b4 {g : mj_G} (N : Nat) (e : Nat) (he : 6 ≤ e) : ∀ (n : Nat) (x1 : Int32) (x2 : Int32) (x3 : Int32) (M : mj_M), mj_X g (mj_qI g) "WinterTellersModel" c_M_nightsOfAll 4 (some .int) e 4 [(0, .ref 48), (1, .int x1), (2, .int x2), (3, .int x3)] [] M (F_M_nightsOfAll_b4 N n x1 x2 x3 M) := by
  intro n
  induction n with
  | zero => intro x1 x2 x3 M; exact mj_none
  | succ n ih =>
    intro x1 x2 x3 M
    rw [F_M_nightsOfAll_b4]
    refine mj_iload_n (pc := 4) (i := 3) rfl dd_M_nightsOfAll_4 ?_
    refine mj_aload_n (pc := 5) (i := 0) rfl dd_M_nightsOfAll_5 ?_
    refine mj_getI (pc := 6) (b := 48) (k := 26) qf_M_245 sh_48 cl_12 rfl (by decide) rfl dd_M_nightsOfAll_6 ?_
    refine mj_icmp_ge (pc := 9) (tgt := 39) dd_M_nightsOfAll_9 rfl (fun h1 => ?_) (fun h1 => ?_)
    · refine mj_iload_n (pc := 39) (i := 2) rfl dd_M_nightsOfAll_39 ?_
      exact mj_iret dd_M_nightsOfAll_40 rfl rfl
    · refine mj_iload_n (pc := 12) (i := 2) rfl dd_M_nightsOfAll_12 ?_
      refine mj_aload_n (pc := 13) (i := 0) rfl dd_M_nightsOfAll_13 ?_
      refine mj_iload_n (pc := 14) (i := 3) rfl dd_M_nightsOfAll_14 ?_
      refine mj_callVI (pc := 15) (idx := 309) (b := 48) (As := [.int x3]) (st := [.int x2]) sh_48 cl_12 ev_M_owns ql_M_309 rfl (Nat.le_of_ble_eq_true rfl) (T_M_owns (g := g) e (by omega) x3 M) dd_M_nightsOfAll_15 (fun q2 hq2 => ?_)
      refine mj_if_eq (pc := 18) (tgt := 30) dd_M_nightsOfAll_18 rfl (fun h3 => ?_) (fun h3 => ?_)
      · refine mj_iconst (pc := 30) (v := (0 : Int32)) (by decide) dd_M_nightsOfAll_30 ?_
        refine mj_iadd (pc := 31) dd_M_nightsOfAll_31 ?_
        refine mj_istore_nL (pc := 32) (by decide) dd_M_nightsOfAll_32 (fun v4 _ => ?_)
        refine mj_L (L' := [(2, .int v4), (0, .ref 48), (1, .int x1), (3, .int x3)]) [0, 1, 2, 3] rfl ?_
        refine mj_iinc (pc := 33) (i := 3) (z := (1 : Int32)) rfl (by decide) (by decide) dd_M_nightsOfAll_33 ?_
        refine mj_L (L' := [(3, .int (x3 + (1 : Int32))), (2, .int v4), (0, .ref 48), (1, .int x1)]) [0, 1, 2, 3] rfl ?_
        refine mj_goto (pc := 36) (tgt := 4) dd_M_nightsOfAll_36 rfl ?_
        refine mj_L (L' := [(0, .ref 48), (1, .int x1), (2, .int v4), (3, .int (x3 + (1 : Int32)))]) [2, 3, 1, 0] rfl ?_
        exact ih x1 v4 (x3 + (1 : Int32)) q2.2
      · refine mj_aload_n (pc := 21) (i := 0) rfl dd_M_nightsOfAll_21 ?_
        refine mj_iload_n (pc := 22) (i := 1) rfl dd_M_nightsOfAll_22 ?_
        refine mj_iload_n (pc := 23) (i := 3) rfl dd_M_nightsOfAll_23 ?_
        refine mj_callVI (pc := 24) (idx := 284) (b := 48) (As := [.int x1, .int x3]) (st := [.int x2]) sh_48 cl_12 ev_M_nightsNow ql_M_284 rfl (Nat.le_of_ble_eq_true rfl) (T_M_nightsNow (g := g) N e (by omega) x1 x3 q2.2) dd_M_nightsOfAll_24 (fun q5 hq5 => ?_)
        refine mj_goto (pc := 27) (tgt := 31) dd_M_nightsOfAll_27 rfl ?_
        refine mj_iadd (pc := 31) dd_M_nightsOfAll_31 ?_
        refine mj_istore_nL (pc := 32) (by decide) dd_M_nightsOfAll_32 (fun v6 _ => ?_)
        refine mj_L (L' := [(2, .int v6), (0, .ref 48), (1, .int x1), (3, .int x3)]) [0, 1, 2, 3] rfl ?_
        refine mj_iinc (pc := 33) (i := 3) (z := (1 : Int32)) rfl (by decide) (by decide) dd_M_nightsOfAll_33 ?_
        refine mj_L (L' := [(3, .int (x3 + (1 : Int32))), (2, .int v6), (0, .ref 48), (1, .int x1)]) [0, 1, 2, 3] rfl ?_
        refine mj_goto (pc := 36) (tgt := 4) dd_M_nightsOfAll_36 rfl ?_
        refine mj_L (L' := [(0, .ref 48), (1, .int x1), (2, .int v6), (3, .int (x3 + (1 : Int32)))]) [2, 3, 1, 0] rfl ?_
        exact ih x1 v6 (x3 + (1 : Int32)) q5.2
def F_M_nightsOfAll (N : Nat) (x1 : Int32) (M : mj_M) : Option (Int32 × mj_M) :=
    F_M_nightsOfAll_b4 N N x1 (0 : Int32) (0 : Int32) M
set_option maxRecDepth 20000 in
theorem T_M_nightsOfAll {g : mj_G} (N : Nat) : ∀ d, 7 ≤ d → ∀ (x1 : Int32) (M : mj_M), mj_Mt g (mj_qI g) d y_M_nightsOfAll c_M_nightsOfAll 4 (some .int) [.ref 48, .int x1] M (F_M_nightsOfAll N x1 M) := by
  intro d hd x1 M
  obtain ⟨e, rfl⟩ : ∃ e, d = e + 1 := ⟨d - 1, by omega⟩
  have he : 6 ≤ e := by omega
  refine mj_met (by decide +kernel) (Nat.le_of_ble_eq_true rfl) ?_
  unfold F_M_nightsOfAll
  refine mj_L (L' := [(0, .ref 48), (1, .int x1)]) [0, 1] rfl ?_
  refine mj_iconst (pc := 0) (v := (0 : Int32)) (by decide) dd_M_nightsOfAll_0 ?_
  refine mj_istore_n (pc := 1) (by decide) dd_M_nightsOfAll_1 ?_
  refine mj_L (L' := [(2, .int (0 : Int32)), (0, .ref 48), (1, .int x1)]) [0, 1, 2] rfl ?_
  refine mj_iconst (pc := 2) (v := (0 : Int32)) (by decide) dd_M_nightsOfAll_2 ?_
  refine mj_istore_n (pc := 3) (by decide) dd_M_nightsOfAll_3 ?_
  refine mj_L (L' := [(3, .int (0 : Int32)), (2, .int (0 : Int32)), (0, .ref 48), (1, .int x1)]) [0, 1, 2, 3] rfl ?_
  refine mj_L (L' := [(0, .ref 48), (1, .int x1), (2, .int (0 : Int32)), (3, .int (0 : Int32))]) [2, 3, 1, 0] rfl ?_
  exact T_M_nightsOfAll_b4 (g := g) N e he N x1 (0 : Int32) (0 : Int32) M
def F_M_topHouse_b48 (N : Nat) (k4 : Int32 → Int32 → Int32 → mj_M → Option (Int32 × mj_M)) (x1 : Int32) (x2 : Int32) (x3 : Int32) (s0 : Int32) (M : mj_M) : Option (Int32 × mj_M) :=
    if s0 ≤ (0) then
     (k4 x1 x2 (x3 + (1 : Int32)) M)
     else
     (k4 x1 x3 (x3 + (1 : Int32)) M)
set_option maxRecDepth 20000 in
theorem T_M_topHouse_b48 {g : mj_G} (N : Nat) (e : Nat) (he : 7 ≤ e) (k4 : Int32 → Int32 → Int32 → mj_M → Option (Int32 × mj_M)) (hk4 : ∀ (x1 : Int32) (x2 : Int32) (x3 : Int32) (M : mj_M), mj_X g (mj_qI g) "WinterTellersModel" c_M_topHouse 5 (some .int) e 4 [(0, .ref 48), (1, .int x1), (2, .int x2), (3, .int x3)] [] M (k4 x1 x2 x3 M)) (x1 : Int32) (x2 : Int32) (x3 : Int32) (s0 : Int32) (M : mj_M) : mj_X g (mj_qI g) "WinterTellersModel" c_M_topHouse 5 (some .int) e 48 [(0, .ref 48), (1, .int x1), (2, .int x2), (3, .int x3)] [.int s0] M (F_M_topHouse_b48 N k4 x1 x2 x3 s0 M) := by
  unfold F_M_topHouse_b48
  refine mj_istore (pc := 48) (by decide) dd_M_topHouse_48 ?_
  refine mj_L (L' := [(4, .int s0), (0, .ref 48), (1, .int x1), (2, .int x2), (3, .int x3)]) [0, 1, 2, 3, 4] rfl ?_
  refine mj_iload (pc := 50) (i := 4) rfl dd_M_topHouse_50 ?_
  refine mj_if_le (pc := 52) (tgt := 59) dd_M_topHouse_52 rfl (fun h7 => ?_) (fun h7 => ?_)
  · refine mj_iload_n (pc := 59) (i := 2) rfl dd_M_topHouse_59 ?_
    refine mj_istore_n (pc := 60) (by decide) dd_M_topHouse_60 ?_
    refine mj_L (L' := [(2, .int x2), (0, .ref 48), (1, .int x1), (3, .int x3)]) [0, 2, 3, 4] rfl ?_
    refine mj_iinc (pc := 61) (i := 3) (z := (1 : Int32)) rfl (by decide) (by decide) dd_M_topHouse_61 ?_
    refine mj_L (L' := [(3, .int (x3 + (1 : Int32))), (2, .int x2), (0, .ref 48), (1, .int x1)]) [0, 1, 2, 3] rfl ?_
    refine mj_goto (pc := 64) (tgt := 4) dd_M_topHouse_64 rfl ?_
    refine mj_L (L' := [(0, .ref 48), (1, .int x1), (2, .int x2), (3, .int (x3 + (1 : Int32)))]) [2, 3, 1, 0] rfl ?_
    exact hk4 x1 x2 (x3 + (1 : Int32)) M
  · refine mj_iload_n (pc := 55) (i := 3) rfl dd_M_topHouse_55 ?_
    refine mj_goto (pc := 56) (tgt := 60) dd_M_topHouse_56 rfl ?_
    refine mj_istore_n (pc := 60) (by decide) dd_M_topHouse_60 ?_
    refine mj_L (L' := [(2, .int x3), (0, .ref 48), (1, .int x1), (3, .int x3)]) [0, 2, 3, 4] rfl ?_
    refine mj_iinc (pc := 61) (i := 3) (z := (1 : Int32)) rfl (by decide) (by decide) dd_M_topHouse_61 ?_
    refine mj_L (L' := [(3, .int (x3 + (1 : Int32))), (2, .int x3), (0, .ref 48), (1, .int x1)]) [0, 1, 2, 3] rfl ?_
    refine mj_goto (pc := 64) (tgt := 4) dd_M_topHouse_64 rfl ?_
    refine mj_L (L' := [(0, .ref 48), (1, .int x1), (2, .int x3), (3, .int (x3 + (1 : Int32)))]) [2, 3, 1, 0] rfl ?_
    exact hk4 x1 x3 (x3 + (1 : Int32)) M
def F_M_topHouse_b4 (N : Nat) : Nat → Int32 → Int32 → Int32 → mj_M → Option (Int32 × mj_M)
  | 0, _, _, _, _ => none
  | n + 1, x1, x2, x3, M =>
    if (M 48 25) ≤ x3 then
     (some (x2, M))
     else
     (if x1 = (4 : Int32) then
     ((F_M_nightsOfAll N x2 M).bind (fun q5 =>
     (F_M_nightsOfAll N x3 q5.2).bind (fun q6 =>
     F_M_topHouse_b48 N (F_M_topHouse_b4 N n) x1 x2 x3 (q5.1 - q6.1) q6.2)))
     else
     ((F_M_ofHouse x3 (x1 - (1 : Int32)) M).bind (fun q3 =>
     (F_M_ofHouse x2 (x1 - (1 : Int32)) q3.2).bind (fun q4 =>
     F_M_topHouse_b48 N (F_M_topHouse_b4 N n) x1 x2 x3 (q3.1 - q4.1) q4.2))))
set_option maxRecDepth 20000 in
theorem T_M_topHouse_b4 {g : mj_G} (N : Nat) (e : Nat) (he : 7 ≤ e) : ∀ (n : Nat) (x1 : Int32) (x2 : Int32) (x3 : Int32) (M : mj_M), mj_X g (mj_qI g) "WinterTellersModel" c_M_topHouse 5 (some .int) e 4 [(0, .ref 48), (1, .int x1), (2, .int x2), (3, .int x3)] [] M (F_M_topHouse_b4 N n x1 x2 x3 M) := by
  intro n
  induction n with
  | zero => intro x1 x2 x3 M; exact mj_none
  | succ n ih =>
    intro x1 x2 x3 M
    rw [F_M_topHouse_b4]
    refine mj_iload_n (pc := 4) (i := 3) rfl dd_M_topHouse_4 ?_
    refine mj_aload_n (pc := 5) (i := 0) rfl dd_M_topHouse_5 ?_
    refine mj_getI (pc := 6) (b := 48) (k := 25) qf_M_242 sh_48 cl_12 rfl (by decide) rfl dd_M_topHouse_6 ?_
    refine mj_icmp_ge (pc := 9) (tgt := 67) dd_M_topHouse_9 rfl (fun h1 => ?_) (fun h1 => ?_)
    · refine mj_iload_n (pc := 67) (i := 2) rfl dd_M_topHouse_67 ?_
      exact mj_iret dd_M_topHouse_68 rfl rfl
    · refine mj_iload_n (pc := 12) (i := 1) rfl dd_M_topHouse_12 ?_
      refine mj_iconst (pc := 13) (v := (4 : Int32)) (by decide) dd_M_topHouse_13 ?_
      refine mj_icmp_ne (pc := 14) (tgt := 31) dd_M_topHouse_14 rfl (fun h2 => ?_) (fun h2 => ?_)
      · refine mj_aload_n (pc := 17) (i := 0) rfl dd_M_topHouse_17 ?_
        refine mj_iload_n (pc := 18) (i := 2) rfl dd_M_topHouse_18 ?_
        refine mj_callVI (pc := 19) (idx := 405) (b := 48) (As := [.int x2]) (st := []) sh_48 cl_12 ev_M_nightsOfAll ql_M_405 rfl (Nat.le_of_ble_eq_true rfl) (T_M_nightsOfAll (g := g) N e (by omega) x2 M) dd_M_topHouse_19 (fun q5 hq5 => ?_)
        refine mj_aload_n (pc := 22) (i := 0) rfl dd_M_topHouse_22 ?_
        refine mj_iload_n (pc := 23) (i := 3) rfl dd_M_topHouse_23 ?_
        refine mj_callVI (pc := 24) (idx := 405) (b := 48) (As := [.int x3]) (st := [.int q5.1]) sh_48 cl_12 ev_M_nightsOfAll ql_M_405 rfl (Nat.le_of_ble_eq_true rfl) (T_M_nightsOfAll (g := g) N e (by omega) x3 q5.2) dd_M_topHouse_24 (fun q6 hq6 => ?_)
        refine mj_isub (pc := 27) dd_M_topHouse_27 ?_
        refine mj_goto (pc := 28) (tgt := 48) dd_M_topHouse_28 rfl ?_
        refine mj_L (L' := [(0, .ref 48), (1, .int x1), (2, .int x2), (3, .int x3)]) [0, 1, 2, 3] rfl ?_
        exact T_M_topHouse_b48 (g := g) N e he (F_M_topHouse_b4 N n) ih x1 x2 x3 (q5.1 - q6.1) q6.2
      · refine mj_aload_n (pc := 31) (i := 0) rfl dd_M_topHouse_31 ?_
        refine mj_iload_n (pc := 32) (i := 3) rfl dd_M_topHouse_32 ?_
        refine mj_iload_n (pc := 33) (i := 1) rfl dd_M_topHouse_33 ?_
        refine mj_iconst (pc := 34) (v := (1 : Int32)) (by decide) dd_M_topHouse_34 ?_
        refine mj_isub (pc := 35) dd_M_topHouse_35 ?_
        refine mj_callVI (pc := 36) (idx := 251) (b := 48) (As := [.int x3, .int (x1 - (1 : Int32))]) (st := []) sh_48 cl_12 ev_M_ofHouse ql_M_251 rfl (Nat.le_of_ble_eq_true rfl) (T_M_ofHouse (g := g) e (by omega) x3 (x1 - (1 : Int32)) M) dd_M_topHouse_36 (fun q3 hq3 => ?_)
        refine mj_aload_n (pc := 39) (i := 0) rfl dd_M_topHouse_39 ?_
        refine mj_iload_n (pc := 40) (i := 2) rfl dd_M_topHouse_40 ?_
        refine mj_iload_n (pc := 41) (i := 1) rfl dd_M_topHouse_41 ?_
        refine mj_iconst (pc := 42) (v := (1 : Int32)) (by decide) dd_M_topHouse_42 ?_
        refine mj_isub (pc := 43) dd_M_topHouse_43 ?_
        refine mj_callVI (pc := 44) (idx := 251) (b := 48) (As := [.int x2, .int (x1 - (1 : Int32))]) (st := [.int q3.1]) sh_48 cl_12 ev_M_ofHouse ql_M_251 rfl (Nat.le_of_ble_eq_true rfl) (T_M_ofHouse (g := g) e (by omega) x2 (x1 - (1 : Int32)) q3.2) dd_M_topHouse_44 (fun q4 hq4 => ?_)
        refine mj_isub (pc := 47) dd_M_topHouse_47 ?_
        refine mj_L (L' := [(0, .ref 48), (1, .int x1), (2, .int x2), (3, .int x3)]) [0, 1, 2, 3] rfl ?_
        exact T_M_topHouse_b48 (g := g) N e he (F_M_topHouse_b4 N n) ih x1 x2 x3 (q3.1 - q4.1) q4.2
def F_M_topHouse (N : Nat) (x1 : Int32) (M : mj_M) : Option (Int32 × mj_M) :=
    F_M_topHouse_b4 N N x1 (0 : Int32) (1 : Int32) M
set_option maxRecDepth 20000 in
theorem T_M_topHouse {g : mj_G} (N : Nat) : ∀ d, 8 ≤ d → ∀ (x1 : Int32) (M : mj_M), mj_Mt g (mj_qI g) d y_M_topHouse c_M_topHouse 5 (some .int) [.ref 48, .int x1] M (F_M_topHouse N x1 M) := by
  intro d hd x1 M
  obtain ⟨e, rfl⟩ : ∃ e, d = e + 1 := ⟨d - 1, by omega⟩
  have he : 7 ≤ e := by omega
  refine mj_met (by decide +kernel) (Nat.le_of_ble_eq_true rfl) ?_
  unfold F_M_topHouse
  refine mj_L (L' := [(0, .ref 48), (1, .int x1)]) [0, 1] rfl ?_
  refine mj_iconst (pc := 0) (v := (0 : Int32)) (by decide) dd_M_topHouse_0 ?_
  refine mj_istore_n (pc := 1) (by decide) dd_M_topHouse_1 ?_
  refine mj_L (L' := [(2, .int (0 : Int32)), (0, .ref 48), (1, .int x1)]) [0, 1, 2] rfl ?_
  refine mj_iconst (pc := 2) (v := (1 : Int32)) (by decide) dd_M_topHouse_2 ?_
  refine mj_istore_n (pc := 3) (by decide) dd_M_topHouse_3 ?_
  refine mj_L (L' := [(3, .int (1 : Int32)), (2, .int (0 : Int32)), (0, .ref 48), (1, .int x1)]) [0, 1, 2, 3] rfl ?_
  refine mj_L (L' := [(0, .ref 48), (1, .int x1), (2, .int (0 : Int32)), (3, .int (1 : Int32))]) [2, 3, 1, 0] rfl ?_
  exact T_M_topHouse_b4 (g := g) N e he N x1 (0 : Int32) (1 : Int32) M
def F_M_trueOnes_b4 (N : Nat) : Nat → Int32 → Int32 → mj_M → Option (Int32 × mj_M)
  | 0, _, _, _ => none
  | n + 1, x1, x2, M =>
    if (M 48 26) ≤ x2 then
     (some (x1, M))
     else
     ((F_M_ofTale x2 (2 : Int32) M).bind (fun q2 =>
     mj_lt (x1 ||| (q2.1 <<< (x2 &&& 31))) (fun v3 =>
     F_M_trueOnes_b4 N n v3 (x2 + (1 : Int32)) q2.2)))
set_option maxRecDepth 20000 in
theorem T_M_trueOnes_b4 {g : mj_G} (N : Nat) (e : Nat) (he : 1 ≤ e) : ∀ (n : Nat) (x1 : Int32) (x2 : Int32) (M : mj_M), mj_X g (mj_qI g) "WinterTellersModel" c_M_trueOnes 3 (some .int) e 4 [(0, .ref 48), (1, .int x1), (2, .int x2)] [] M (F_M_trueOnes_b4 N n x1 x2 M) := by
  intro n
  induction n with
  | zero => intro x1 x2 M; exact mj_none
  | succ n ih =>
    intro x1 x2 M
    rw [F_M_trueOnes_b4]
    refine mj_iload_n (pc := 4) (i := 2) rfl dd_M_trueOnes_4 ?_
    refine mj_aload_n (pc := 5) (i := 0) rfl dd_M_trueOnes_5 ?_
    refine mj_getI (pc := 6) (b := 48) (k := 26) qf_M_245 sh_48 cl_12 rfl (by decide) rfl dd_M_trueOnes_6 ?_
    refine mj_icmp_ge (pc := 9) (tgt := 29) dd_M_trueOnes_9 rfl (fun h1 => ?_) (fun h1 => ?_)
    · refine mj_iload_n (pc := 29) (i := 1) rfl dd_M_trueOnes_29 ?_
      exact mj_iret dd_M_trueOnes_30 rfl rfl
    · refine mj_iload_n (pc := 12) (i := 1) rfl dd_M_trueOnes_12 ?_
      refine mj_aload_n (pc := 13) (i := 0) rfl dd_M_trueOnes_13 ?_
      refine mj_iload_n (pc := 14) (i := 2) rfl dd_M_trueOnes_14 ?_
      refine mj_iconst (pc := 15) (v := (2 : Int32)) (by decide) dd_M_trueOnes_15 ?_
      refine mj_callVI (pc := 16) (idx := 248) (b := 48) (As := [.int x2, .int (2 : Int32)]) (st := [.int x1]) sh_48 cl_12 ev_M_ofTale ql_M_248 rfl (Nat.le_of_ble_eq_true rfl) (T_M_ofTale (g := g) e (by omega) x2 (2 : Int32) M) dd_M_trueOnes_16 (fun q2 hq2 => ?_)
      refine mj_iload_n (pc := 19) (i := 2) rfl dd_M_trueOnes_19 ?_
      refine mj_ishl (pc := 20) dd_M_trueOnes_20 ?_
      refine mj_ior (pc := 21) dd_M_trueOnes_21 ?_
      refine mj_istore_nL (pc := 22) (by decide) dd_M_trueOnes_22 (fun v3 _ => ?_)
      refine mj_L (L' := [(1, .int v3), (0, .ref 48), (2, .int x2)]) [0, 1, 2] rfl ?_
      refine mj_iinc (pc := 23) (i := 2) (z := (1 : Int32)) rfl (by decide) (by decide) dd_M_trueOnes_23 ?_
      refine mj_L (L' := [(2, .int (x2 + (1 : Int32))), (1, .int v3), (0, .ref 48)]) [0, 1, 2] rfl ?_
      refine mj_goto (pc := 26) (tgt := 4) dd_M_trueOnes_26 rfl ?_
      refine mj_L (L' := [(0, .ref 48), (1, .int v3), (2, .int (x2 + (1 : Int32)))]) [2, 1, 0] rfl ?_
      exact ih v3 (x2 + (1 : Int32)) q2.2
def F_M_trueOnes (N : Nat) (M : mj_M) : Option (Int32 × mj_M) :=
    F_M_trueOnes_b4 N N (0 : Int32) (0 : Int32) M
set_option maxRecDepth 20000 in
theorem T_M_trueOnes {g : mj_G} (N : Nat) : ∀ d, 2 ≤ d → ∀ (M : mj_M), mj_Mt g (mj_qI g) d y_M_trueOnes c_M_trueOnes 3 (some .int) [.ref 48] M (F_M_trueOnes N M) := by
  intro d hd M
  obtain ⟨e, rfl⟩ : ∃ e, d = e + 1 := ⟨d - 1, by omega⟩
  have he : 1 ≤ e := by omega
  refine mj_met (by decide +kernel) (Nat.le_of_ble_eq_true rfl) ?_
  unfold F_M_trueOnes
  refine mj_L (L' := [(0, .ref 48)]) [0] rfl ?_
  refine mj_iconst (pc := 0) (v := (0 : Int32)) (by decide) dd_M_trueOnes_0 ?_
  refine mj_istore_n (pc := 1) (by decide) dd_M_trueOnes_1 ?_
  refine mj_L (L' := [(1, .int (0 : Int32)), (0, .ref 48)]) [0, 1] rfl ?_
  refine mj_iconst (pc := 2) (v := (0 : Int32)) (by decide) dd_M_trueOnes_2 ?_
  refine mj_istore_n (pc := 3) (by decide) dd_M_trueOnes_3 ?_
  refine mj_L (L' := [(2, .int (0 : Int32)), (1, .int (0 : Int32)), (0, .ref 48)]) [0, 1, 2] rfl ?_
  refine mj_L (L' := [(0, .ref 48), (1, .int (0 : Int32)), (2, .int (0 : Int32))]) [2, 1, 0] rfl ?_
  exact T_M_trueOnes_b4 (g := g) N e he N (0 : Int32) (0 : Int32) M
def F_M_commonOnes_b11 (N : Nat) : Nat → Int32 → Int32 → mj_M → Option (Int32 × mj_M)
  | 0, _, _, _ => none
  | n + 1, x1, x2, M =>
    if (M 48 25) ≤ x2 then
     (some (x1, M))
     else
     ((F_M_heardSet N x2 M).bind (fun q3 =>
     mj_lt (x1 &&& q3.1) (fun v4 =>
     F_M_commonOnes_b11 N n v4 (x2 + (1 : Int32)) q3.2)))
set_option maxRecDepth 20000 in
theorem T_M_commonOnes_b11 {g : mj_G} (N : Nat) (e : Nat) (he : 2 ≤ e) : ∀ (n : Nat) (x1 : Int32) (x2 : Int32) (M : mj_M), mj_X g (mj_qI g) "WinterTellersModel" c_M_commonOnes 3 (some .int) e 11 [(0, .ref 48), (1, .int x1), (2, .int x2)] [] M (F_M_commonOnes_b11 N n x1 x2 M) := by
  intro n
  induction n with
  | zero => intro x1 x2 M; exact mj_none
  | succ n ih =>
    intro x1 x2 M
    rw [F_M_commonOnes_b11]
    refine mj_iload_n (pc := 11) (i := 2) rfl dd_M_commonOnes_11 ?_
    refine mj_aload_n (pc := 12) (i := 0) rfl dd_M_commonOnes_12 ?_
    refine mj_getI (pc := 13) (b := 48) (k := 25) qf_M_242 sh_48 cl_12 rfl (by decide) rfl dd_M_commonOnes_13 ?_
    refine mj_icmp_ge (pc := 16) (tgt := 33) dd_M_commonOnes_16 rfl (fun h2 => ?_) (fun h2 => ?_)
    · refine mj_iload_n (pc := 33) (i := 1) rfl dd_M_commonOnes_33 ?_
      exact mj_iret dd_M_commonOnes_34 rfl rfl
    · refine mj_iload_n (pc := 19) (i := 1) rfl dd_M_commonOnes_19 ?_
      refine mj_aload_n (pc := 20) (i := 0) rfl dd_M_commonOnes_20 ?_
      refine mj_iload_n (pc := 21) (i := 2) rfl dd_M_commonOnes_21 ?_
      refine mj_callVI (pc := 22) (idx := 303) (b := 48) (As := [.int x2]) (st := [.int x1]) sh_48 cl_12 ev_M_heardSet ql_M_303 rfl (Nat.le_of_ble_eq_true rfl) (T_M_heardSet (g := g) N e (by omega) x2 M) dd_M_commonOnes_22 (fun q3 hq3 => ?_)
      refine mj_iand (pc := 25) dd_M_commonOnes_25 ?_
      refine mj_istore_nL (pc := 26) (by decide) dd_M_commonOnes_26 (fun v4 _ => ?_)
      refine mj_L (L' := [(1, .int v4), (0, .ref 48), (2, .int x2)]) [0, 1, 2] rfl ?_
      refine mj_iinc (pc := 27) (i := 2) (z := (1 : Int32)) rfl (by decide) (by decide) dd_M_commonOnes_27 ?_
      refine mj_L (L' := [(2, .int (x2 + (1 : Int32))), (1, .int v4), (0, .ref 48)]) [0, 1, 2] rfl ?_
      refine mj_goto (pc := 30) (tgt := 11) dd_M_commonOnes_30 rfl ?_
      refine mj_L (L' := [(0, .ref 48), (1, .int v4), (2, .int (x2 + (1 : Int32)))]) [2, 1, 0] rfl ?_
      exact ih v4 (x2 + (1 : Int32)) q3.2
def F_M_commonOnes (N : Nat) (M : mj_M) : Option (Int32 × mj_M) :=
    mj_lt (((1 : Int32) <<< ((M 48 26) &&& 31)) - (1 : Int32)) (fun v1 =>
     F_M_commonOnes_b11 N N v1 (0 : Int32) M)
set_option maxRecDepth 20000 in
theorem T_M_commonOnes {g : mj_G} (N : Nat) : ∀ d, 3 ≤ d → ∀ (M : mj_M), mj_Mt g (mj_qI g) d y_M_commonOnes c_M_commonOnes 3 (some .int) [.ref 48] M (F_M_commonOnes N M) := by
  intro d hd M
  obtain ⟨e, rfl⟩ : ∃ e, d = e + 1 := ⟨d - 1, by omega⟩
  have he : 2 ≤ e := by omega
  refine mj_met (by decide +kernel) (Nat.le_of_ble_eq_true rfl) ?_
  unfold F_M_commonOnes
  refine mj_L (L' := [(0, .ref 48)]) [0] rfl ?_
  refine mj_iconst (pc := 0) (v := (1 : Int32)) (by decide) dd_M_commonOnes_0 ?_
  refine mj_aload_n (pc := 1) (i := 0) rfl dd_M_commonOnes_1 ?_
  refine mj_getI (pc := 2) (b := 48) (k := 26) qf_M_245 sh_48 cl_12 rfl (by decide) rfl dd_M_commonOnes_2 ?_
  refine mj_ishl (pc := 5) dd_M_commonOnes_5 ?_
  refine mj_iconst (pc := 6) (v := (1 : Int32)) (by decide) dd_M_commonOnes_6 ?_
  refine mj_isub (pc := 7) dd_M_commonOnes_7 ?_
  refine mj_istore_nL (pc := 8) (by decide) dd_M_commonOnes_8 (fun v1 _ => ?_)
  refine mj_L (L' := [(1, .int v1), (0, .ref 48)]) [0, 1] rfl ?_
  refine mj_iconst (pc := 9) (v := (0 : Int32)) (by decide) dd_M_commonOnes_9 ?_
  refine mj_istore_n (pc := 10) (by decide) dd_M_commonOnes_10 ?_
  refine mj_L (L' := [(2, .int (0 : Int32)), (1, .int v1), (0, .ref 48)]) [0, 1, 2] rfl ?_
  refine mj_L (L' := [(0, .ref 48), (1, .int v1), (2, .int (0 : Int32))]) [2, 1, 0] rfl ?_
  exact T_M_commonOnes_b11 (g := g) N e he N v1 (0 : Int32) M
def F_M_overAll_b4 (N : Nat) : Nat → Int32 → Int32 → Int32 → mj_M → Option (Int32 × mj_M)
  | 0, _, _, _, _ => none
  | n + 1, x1, x2, x3, M =>
    if (M 48 25) ≤ x3 then
     (some (x2, M))
     else
     ((F_M_nightsOfAll N x3 M).bind (fun q2 =>
     if x1 = (0) then
     (mj_lt (x2 + q2.1) (fun v7 =>
     F_M_overAll_b4 N n x1 v7 (x3 + (1 : Int32)) q2.2))
     else
     (if q2.1 ≤ (0) then
     (mj_lt (x2 + (0 : Int32)) (fun v5 =>
     F_M_overAll_b4 N n x1 v5 (x3 + (1 : Int32)) q2.2))
     else
     (mj_lt (x2 + (1 : Int32)) (fun v6 =>
     F_M_overAll_b4 N n x1 v6 (x3 + (1 : Int32)) q2.2)))))
set_option maxRecDepth 20000 in
theorem T_M_overAll_b4 {g : mj_G} (N : Nat) (e : Nat) (he : 7 ≤ e) : ∀ (n : Nat) (x1 : Int32) (x2 : Int32) (x3 : Int32) (M : mj_M), mj_X g (mj_qI g) "WinterTellersModel" c_M_overAll 5 (some .int) e 4 [(0, .ref 48), (1, .int x1), (2, .int x2), (3, .int x3)] [] M (F_M_overAll_b4 N n x1 x2 x3 M) := by
  intro n
  induction n with
  | zero => intro x1 x2 x3 M; exact mj_none
  | succ n ih =>
    intro x1 x2 x3 M
    rw [F_M_overAll_b4]
    refine mj_iload_n (pc := 4) (i := 3) rfl dd_M_overAll_4 ?_
    refine mj_aload_n (pc := 5) (i := 0) rfl dd_M_overAll_5 ?_
    refine mj_getI (pc := 6) (b := 48) (k := 25) qf_M_242 sh_48 cl_12 rfl (by decide) rfl dd_M_overAll_6 ?_
    refine mj_icmp_ge (pc := 9) (tgt := 47) dd_M_overAll_9 rfl (fun h1 => ?_) (fun h1 => ?_)
    · refine mj_iload_n (pc := 47) (i := 2) rfl dd_M_overAll_47 ?_
      exact mj_iret dd_M_overAll_48 rfl rfl
    · refine mj_aload_n (pc := 12) (i := 0) rfl dd_M_overAll_12 ?_
      refine mj_iload_n (pc := 13) (i := 3) rfl dd_M_overAll_13 ?_
      refine mj_callVI (pc := 14) (idx := 405) (b := 48) (As := [.int x3]) (st := []) sh_48 cl_12 ev_M_nightsOfAll ql_M_405 rfl (Nat.le_of_ble_eq_true rfl) (T_M_nightsOfAll (g := g) N e (by omega) x3 M) dd_M_overAll_14 (fun q2 hq2 => ?_)
      refine mj_istore (pc := 17) (by decide) dd_M_overAll_17 ?_
      refine mj_L (L' := [(4, .int q2.1), (0, .ref 48), (1, .int x1), (2, .int x2), (3, .int x3)]) [0, 1, 2, 3, 4] rfl ?_
      refine mj_iload_n (pc := 19) (i := 2) rfl dd_M_overAll_19 ?_
      refine mj_iload_n (pc := 20) (i := 1) rfl dd_M_overAll_20 ?_
      refine mj_if_ne (pc := 21) (tgt := 29) dd_M_overAll_21 rfl (fun h3 => ?_) (fun h3 => ?_)
      · refine mj_iload (pc := 24) (i := 4) rfl dd_M_overAll_24 ?_
        refine mj_goto (pc := 26) (tgt := 39) dd_M_overAll_26 rfl ?_
        refine mj_iadd (pc := 39) dd_M_overAll_39 ?_
        refine mj_istore_nL (pc := 40) (by decide) dd_M_overAll_40 (fun v7 _ => ?_)
        refine mj_L (L' := [(2, .int v7), (0, .ref 48), (1, .int x1), (3, .int x3)]) [0, 2, 3, 4] rfl ?_
        refine mj_iinc (pc := 41) (i := 3) (z := (1 : Int32)) rfl (by decide) (by decide) dd_M_overAll_41 ?_
        refine mj_L (L' := [(3, .int (x3 + (1 : Int32))), (2, .int v7), (0, .ref 48), (1, .int x1)]) [0, 1, 2, 3] rfl ?_
        refine mj_goto (pc := 44) (tgt := 4) dd_M_overAll_44 rfl ?_
        refine mj_L (L' := [(0, .ref 48), (1, .int x1), (2, .int v7), (3, .int (x3 + (1 : Int32)))]) [2, 3, 1, 0] rfl ?_
        exact ih x1 v7 (x3 + (1 : Int32)) q2.2
      · refine mj_iload (pc := 29) (i := 4) rfl dd_M_overAll_29 ?_
        refine mj_if_le (pc := 31) (tgt := 38) dd_M_overAll_31 rfl (fun h4 => ?_) (fun h4 => ?_)
        · refine mj_iconst (pc := 38) (v := (0 : Int32)) (by decide) dd_M_overAll_38 ?_
          refine mj_iadd (pc := 39) dd_M_overAll_39 ?_
          refine mj_istore_nL (pc := 40) (by decide) dd_M_overAll_40 (fun v5 _ => ?_)
          refine mj_L (L' := [(2, .int v5), (0, .ref 48), (1, .int x1), (3, .int x3)]) [0, 2, 3, 4] rfl ?_
          refine mj_iinc (pc := 41) (i := 3) (z := (1 : Int32)) rfl (by decide) (by decide) dd_M_overAll_41 ?_
          refine mj_L (L' := [(3, .int (x3 + (1 : Int32))), (2, .int v5), (0, .ref 48), (1, .int x1)]) [0, 1, 2, 3] rfl ?_
          refine mj_goto (pc := 44) (tgt := 4) dd_M_overAll_44 rfl ?_
          refine mj_L (L' := [(0, .ref 48), (1, .int x1), (2, .int v5), (3, .int (x3 + (1 : Int32)))]) [2, 3, 1, 0] rfl ?_
          exact ih x1 v5 (x3 + (1 : Int32)) q2.2
        · refine mj_iconst (pc := 34) (v := (1 : Int32)) (by decide) dd_M_overAll_34 ?_
          refine mj_goto (pc := 35) (tgt := 39) dd_M_overAll_35 rfl ?_
          refine mj_iadd (pc := 39) dd_M_overAll_39 ?_
          refine mj_istore_nL (pc := 40) (by decide) dd_M_overAll_40 (fun v6 _ => ?_)
          refine mj_L (L' := [(2, .int v6), (0, .ref 48), (1, .int x1), (3, .int x3)]) [0, 2, 3, 4] rfl ?_
          refine mj_iinc (pc := 41) (i := 3) (z := (1 : Int32)) rfl (by decide) (by decide) dd_M_overAll_41 ?_
          refine mj_L (L' := [(3, .int (x3 + (1 : Int32))), (2, .int v6), (0, .ref 48), (1, .int x1)]) [0, 1, 2, 3] rfl ?_
          refine mj_goto (pc := 44) (tgt := 4) dd_M_overAll_44 rfl ?_
          refine mj_L (L' := [(0, .ref 48), (1, .int x1), (2, .int v6), (3, .int (x3 + (1 : Int32)))]) [2, 3, 1, 0] rfl ?_
          exact ih x1 v6 (x3 + (1 : Int32)) q2.2
def F_M_overAll (N : Nat) (x1 : Int32) (M : mj_M) : Option (Int32 × mj_M) :=
    F_M_overAll_b4 N N x1 (0 : Int32) (0 : Int32) M
set_option maxRecDepth 20000 in
theorem T_M_overAll {g : mj_G} (N : Nat) : ∀ d, 8 ≤ d → ∀ (x1 : Int32) (M : mj_M), mj_Mt g (mj_qI g) d y_M_overAll c_M_overAll 5 (some .int) [.ref 48, .int x1] M (F_M_overAll N x1 M) := by
  intro d hd x1 M
  obtain ⟨e, rfl⟩ : ∃ e, d = e + 1 := ⟨d - 1, by omega⟩
  have he : 7 ≤ e := by omega
  refine mj_met (by decide +kernel) (Nat.le_of_ble_eq_true rfl) ?_
  unfold F_M_overAll
  refine mj_L (L' := [(0, .ref 48), (1, .int x1)]) [0, 1] rfl ?_
  refine mj_iconst (pc := 0) (v := (0 : Int32)) (by decide) dd_M_overAll_0 ?_
  refine mj_istore_n (pc := 1) (by decide) dd_M_overAll_1 ?_
  refine mj_L (L' := [(2, .int (0 : Int32)), (0, .ref 48), (1, .int x1)]) [0, 1, 2] rfl ?_
  refine mj_iconst (pc := 2) (v := (0 : Int32)) (by decide) dd_M_overAll_2 ?_
  refine mj_istore_n (pc := 3) (by decide) dd_M_overAll_3 ?_
  refine mj_L (L' := [(3, .int (0 : Int32)), (2, .int (0 : Int32)), (0, .ref 48), (1, .int x1)]) [0, 1, 2, 3] rfl ?_
  refine mj_L (L' := [(0, .ref 48), (1, .int x1), (2, .int (0 : Int32)), (3, .int (0 : Int32))]) [2, 3, 1, 0] rfl ?_
  exact T_M_overAll_b4 (g := g) N e he N x1 (0 : Int32) (0 : Int32) M
def F_M_most (N : Nat) (x1 : Int32) (M : mj_M) : Option (Int32 × mj_M) :=
    if (M 48 25) = (0) then
     (some ((-1 : Int32), M))
     else
     (if x1 = (0 : Int32) then
     ((F_M_topTale N (1 : Int32) M).bind (fun q3 =>
     some (q3.1, q3.2)))
     else
     (if x1 = (1 : Int32) then
     ((F_M_topTale N (0 : Int32) M).bind (fun q5 =>
     some (q5.1, q5.2)))
     else
     (if x1 = (2 : Int32) then
     ((F_M_topHouse N (2 : Int32) M).bind (fun q7 =>
     some (q7.1, q7.2)))
     else
     (if x1 = (3 : Int32) then
     ((F_M_topHouse N (3 : Int32) M).bind (fun q9 =>
     some (q9.1, q9.2)))
     else
     (if x1 = (4 : Int32) then
     ((F_M_topHouse N (4 : Int32) M).bind (fun q11 =>
     some (q11.1, q11.2)))
     else
     (if x1 = (5 : Int32) then
     ((F_M_trueOnes N M).bind (fun q13 =>
     some (q13.1, q13.2)))
     else
     (if x1 = (6 : Int32) then
     ((F_M_commonOnes N M).bind (fun q15 =>
     some (q15.1, q15.2)))
     else
     (if x1 = (7 : Int32) then
     ((F_M_overAll N (0 : Int32) M).bind (fun q17 =>
     some (q17.1, q17.2)))
     else
     (if x1 = (8 : Int32) then
     ((F_M_overAll N (1 : Int32) M).bind (fun q19 =>
     some (q19.1, q19.2)))
     else
     (some ((-1 : Int32), M)))))))))))
set_option maxRecDepth 20000 in
theorem T_M_most {g : mj_G} (N : Nat) : ∀ d, 9 ≤ d → ∀ (x1 : Int32) (M : mj_M), mj_Mt g (mj_qI g) d y_M_most c_M_most 2 (some .int) [.ref 48, .int x1] M (F_M_most N x1 M) := by
  intro d hd x1 M
  obtain ⟨e, rfl⟩ : ∃ e, d = e + 1 := ⟨d - 1, by omega⟩
  have he : 8 ≤ e := by omega
  refine mj_met (by decide +kernel) (Nat.le_of_ble_eq_true rfl) ?_
  unfold F_M_most
  refine mj_L (L' := [(0, .ref 48), (1, .int x1)]) [0, 1] rfl ?_
  refine mj_aload_n (pc := 0) (i := 0) rfl dd_M_most_0 ?_
  refine mj_getI (pc := 1) (b := 48) (k := 25) qf_M_242 sh_48 cl_12 rfl (by decide) rfl dd_M_most_1 ?_
  refine mj_if_ne (pc := 4) (tgt := 9) dd_M_most_4 rfl (fun h1 => ?_) (fun h1 => ?_)
  · refine mj_iconst (pc := 7) (v := (-1 : Int32)) (by decide) dd_M_most_7 ?_
    exact mj_iret dd_M_most_8 rfl rfl
  · refine mj_iload_n (pc := 9) (i := 1) rfl dd_M_most_9 ?_
    refine mj_ife (fun h2 => ?_) (fun h2 => ?_)
    · refine mj_tswK (pc := 10) (tgt := 60) (k := (0 : Int32)) (off := 50) h2 dd_M_most_10 (by decide) (by decide) rfl rfl ?_
      refine mj_aload_n (pc := 60) (i := 0) rfl dd_M_most_60 ?_
      refine mj_iconst (pc := 61) (v := (1 : Int32)) (by decide) dd_M_most_61 ?_
      refine mj_callVI (pc := 62) (idx := 408) (b := 48) (As := [.int (1 : Int32)]) (st := []) sh_48 cl_12 ev_M_topTale ql_M_408 rfl (Nat.le_of_ble_eq_true rfl) (T_M_topTale (g := g) N e (by omega) (1 : Int32) M) dd_M_most_62 (fun q3 hq3 => ?_)
      exact mj_iret dd_M_most_65 rfl rfl
    · refine mj_ife (fun h4 => ?_) (fun h4 => ?_)
      · refine mj_tswK (pc := 10) (tgt := 66) (k := (1 : Int32)) (off := 56) h4 dd_M_most_10 (by decide) (by decide) rfl rfl ?_
        refine mj_aload_n (pc := 66) (i := 0) rfl dd_M_most_66 ?_
        refine mj_iconst (pc := 67) (v := (0 : Int32)) (by decide) dd_M_most_67 ?_
        refine mj_callVI (pc := 68) (idx := 408) (b := 48) (As := [.int (0 : Int32)]) (st := []) sh_48 cl_12 ev_M_topTale ql_M_408 rfl (Nat.le_of_ble_eq_true rfl) (T_M_topTale (g := g) N e (by omega) (0 : Int32) M) dd_M_most_68 (fun q5 hq5 => ?_)
        exact mj_iret dd_M_most_71 rfl rfl
      · refine mj_ife (fun h6 => ?_) (fun h6 => ?_)
        · refine mj_tswK (pc := 10) (tgt := 72) (k := (2 : Int32)) (off := 62) h6 dd_M_most_10 (by decide) (by decide) rfl rfl ?_
          refine mj_aload_n (pc := 72) (i := 0) rfl dd_M_most_72 ?_
          refine mj_iconst (pc := 73) (v := (2 : Int32)) (by decide) dd_M_most_73 ?_
          refine mj_callVI (pc := 74) (idx := 412) (b := 48) (As := [.int (2 : Int32)]) (st := []) sh_48 cl_12 ev_M_topHouse ql_M_412 rfl (Nat.le_of_ble_eq_true rfl) (T_M_topHouse (g := g) N e (by omega) (2 : Int32) M) dd_M_most_74 (fun q7 hq7 => ?_)
          exact mj_iret dd_M_most_77 rfl rfl
        · refine mj_ife (fun h8 => ?_) (fun h8 => ?_)
          · refine mj_tswK (pc := 10) (tgt := 78) (k := (3 : Int32)) (off := 68) h8 dd_M_most_10 (by decide) (by decide) rfl rfl ?_
            refine mj_aload_n (pc := 78) (i := 0) rfl dd_M_most_78 ?_
            refine mj_iconst (pc := 79) (v := (3 : Int32)) (by decide) dd_M_most_79 ?_
            refine mj_callVI (pc := 80) (idx := 412) (b := 48) (As := [.int (3 : Int32)]) (st := []) sh_48 cl_12 ev_M_topHouse ql_M_412 rfl (Nat.le_of_ble_eq_true rfl) (T_M_topHouse (g := g) N e (by omega) (3 : Int32) M) dd_M_most_80 (fun q9 hq9 => ?_)
            exact mj_iret dd_M_most_83 rfl rfl
          · refine mj_ife (fun h10 => ?_) (fun h10 => ?_)
            · refine mj_tswK (pc := 10) (tgt := 84) (k := (4 : Int32)) (off := 74) h10 dd_M_most_10 (by decide) (by decide) rfl rfl ?_
              refine mj_aload_n (pc := 84) (i := 0) rfl dd_M_most_84 ?_
              refine mj_iconst (pc := 85) (v := (4 : Int32)) (by decide) dd_M_most_85 ?_
              refine mj_callVI (pc := 86) (idx := 412) (b := 48) (As := [.int (4 : Int32)]) (st := []) sh_48 cl_12 ev_M_topHouse ql_M_412 rfl (Nat.le_of_ble_eq_true rfl) (T_M_topHouse (g := g) N e (by omega) (4 : Int32) M) dd_M_most_86 (fun q11 hq11 => ?_)
              exact mj_iret dd_M_most_89 rfl rfl
            · refine mj_ife (fun h12 => ?_) (fun h12 => ?_)
              · refine mj_tswK (pc := 10) (tgt := 90) (k := (5 : Int32)) (off := 80) h12 dd_M_most_10 (by decide) (by decide) rfl rfl ?_
                refine mj_aload_n (pc := 90) (i := 0) rfl dd_M_most_90 ?_
                refine mj_callVI (pc := 91) (idx := 415) (b := 48) (As := []) (st := []) sh_48 cl_12 ev_M_trueOnes ql_M_415 rfl (Nat.le_of_ble_eq_true rfl) (T_M_trueOnes (g := g) N e (by omega) M) dd_M_most_91 (fun q13 hq13 => ?_)
                exact mj_iret dd_M_most_94 rfl rfl
              · refine mj_ife (fun h14 => ?_) (fun h14 => ?_)
                · refine mj_tswK (pc := 10) (tgt := 95) (k := (6 : Int32)) (off := 85) h14 dd_M_most_10 (by decide) (by decide) rfl rfl ?_
                  refine mj_aload_n (pc := 95) (i := 0) rfl dd_M_most_95 ?_
                  refine mj_callVI (pc := 96) (idx := 418) (b := 48) (As := []) (st := []) sh_48 cl_12 ev_M_commonOnes ql_M_418 rfl (Nat.le_of_ble_eq_true rfl) (T_M_commonOnes (g := g) N e (by omega) M) dd_M_most_96 (fun q15 hq15 => ?_)
                  exact mj_iret dd_M_most_99 rfl rfl
                · refine mj_ife (fun h16 => ?_) (fun h16 => ?_)
                  · refine mj_tswK (pc := 10) (tgt := 100) (k := (7 : Int32)) (off := 90) h16 dd_M_most_10 (by decide) (by decide) rfl rfl ?_
                    refine mj_aload_n (pc := 100) (i := 0) rfl dd_M_most_100 ?_
                    refine mj_iconst (pc := 101) (v := (0 : Int32)) (by decide) dd_M_most_101 ?_
                    refine mj_callVI (pc := 102) (idx := 421) (b := 48) (As := [.int (0 : Int32)]) (st := []) sh_48 cl_12 ev_M_overAll ql_M_421 rfl (Nat.le_of_ble_eq_true rfl) (T_M_overAll (g := g) N e (by omega) (0 : Int32) M) dd_M_most_102 (fun q17 hq17 => ?_)
                    exact mj_iret dd_M_most_105 rfl rfl
                  · refine mj_ife (fun h18 => ?_) (fun h18 => ?_)
                    · refine mj_tswK (pc := 10) (tgt := 106) (k := (8 : Int32)) (off := 96) h18 dd_M_most_10 (by decide) (by decide) rfl rfl ?_
                      refine mj_aload_n (pc := 106) (i := 0) rfl dd_M_most_106 ?_
                      refine mj_iconst (pc := 107) (v := (1 : Int32)) (by decide) dd_M_most_107 ?_
                      refine mj_callVI (pc := 108) (idx := 421) (b := 48) (As := [.int (1 : Int32)]) (st := []) sh_48 cl_12 ev_M_overAll ql_M_421 rfl (Nat.le_of_ble_eq_true rfl) (T_M_overAll (g := g) N e (by omega) (1 : Int32) M) dd_M_most_108 (fun q19 hq19 => ?_)
                      exact mj_iret dd_M_most_111 rfl rfl
                    · refine mj_tswD (pc := 10) (tgt := 112) [0, 1, 2, 3, 4, 5, 6, 7, 8] (mj_k1 (mj_ni (k := (0 : Int32)) (n := 0) (by decide) h2) (mj_k1 (mj_ni (k := (1 : Int32)) (n := 1) (by decide) h4) (mj_k1 (mj_ni (k := (2 : Int32)) (n := 2) (by decide) h6) (mj_k1 (mj_ni (k := (3 : Int32)) (n := 3) (by decide) h8) (mj_k1 (mj_ni (k := (4 : Int32)) (n := 4) (by decide) h10) (mj_k1 (mj_ni (k := (5 : Int32)) (n := 5) (by decide) h12) (mj_k1 (mj_ni (k := (6 : Int32)) (n := 6) (by decide) h14) (mj_k1 (mj_ni (k := (7 : Int32)) (n := 7) (by decide) h16) (mj_k1 (mj_ni (k := (8 : Int32)) (n := 8) (by decide) h18) mj_k0))))))))) dd_M_most_10 (by decide) (by decide) rfl ?_
                      refine mj_iconst (pc := 112) (v := (-1 : Int32)) (by decide) dd_M_most_112 ?_
                      exact mj_iret dd_M_most_113 rfl rfl
def F_Stand_save_c26 (x2 : Int32) (M : mj_M) : Option (mj_M) :=
    mj_ck x2 49 (mj_lt (mj_u M 26 x2.toNatClampNeg (M 20 0)) (fun M1 =>
     mj_ck (x2 + (1 : Int32)) 49 (mj_lt (mj_u M1 26 (x2 + (1 : Int32)).toNatClampNeg (M1 20 1)) (fun M2 =>
     mj_ck (x2 + (2 : Int32)) 49 (mj_lt (mj_u M2 26 (x2 + (2 : Int32)).toNatClampNeg (M2 20 2)) (fun M3 =>
     mj_ck (x2 + (3 : Int32)) 49 (mj_lt (mj_u M3 26 (x2 + (3 : Int32)).toNatClampNeg (M3 20 3)) (fun M4 =>
     mj_ck (x2 + (4 : Int32)) 49 (mj_lt (mj_u M4 26 (x2 + (4 : Int32)).toNatClampNeg (M4 20 4)) (fun M5 =>
     mj_ck (x2 + (5 : Int32)) 49 (mj_lt (mj_u M5 26 (x2 + (5 : Int32)).toNatClampNeg (M5 20 5)) (fun M6 =>
     mj_ck (x2 + (6 : Int32)) 49 (mj_lt (mj_u M6 26 (x2 + (6 : Int32)).toNatClampNeg (M6 20 6)) (fun M7 =>
     mj_ac (0 : Int32) (x2 + (7 : Int32)) (6 : Int32) 6 49 (mj_lt (mj_a M7 26 (va_cpy (M7 21) (M7 26) (0 : Int32).toNatClampNeg (x2 + (7 : Int32)).toNatClampNeg (6 : Int32).toNatClampNeg)) (fun M8 =>
     mj_ac (0 : Int32) ((x2 + (7 : Int32)) + (6 : Int32)) (36 : Int32) 36 49 (mj_lt (mj_a M8 26 (va_cpy (M8 22) (M8 26) (0 : Int32).toNatClampNeg ((x2 + (7 : Int32)) + (6 : Int32)).toNatClampNeg (36 : Int32).toNatClampNeg)) (fun M9 =>
     some M9))))))))))))))))))
set_option maxRecDepth 20000 in
theorem T_Stand_save_c26 {g : mj_G} : ∀ d, 1 ≤ d → ∀ (x2 : Int32) (M : mj_M), mj_Mt g (mj_qV g) d y_Stand_save c_Stand_save 3 none [.ref 20, .ref 26, .int x2] M (F_Stand_save_c26 x2 M) := by
  intro d hd x2 M
  obtain ⟨e, rfl⟩ : ∃ e, d = e + 1 := ⟨d - 1, by omega⟩
  have he : 0 ≤ e := by omega
  refine mj_met (by decide +kernel) (Nat.le_of_ble_eq_true rfl) ?_
  unfold F_Stand_save_c26
  refine mj_L (L' := [(0, .ref 20), (1, .ref 26), (2, .int x2)]) [0, 1, 2] rfl ?_
  refine mj_aload_n (pc := 0) (i := 1) rfl dd_Stand_save_0 ?_
  refine mj_iload_n (pc := 1) (i := 2) rfl dd_Stand_save_1 ?_
  refine mj_aload_n (pc := 2) (i := 0) rfl dd_Stand_save_2 ?_
  refine mj_getI (pc := 3) (b := 20) (k := 0) qf_Stand_29 sh_20 cl_8 rfl (by decide) rfl dd_Stand_save_3 ?_
  refine mj_iast (pc := 6) sh_26 dd_Stand_save_6 (fun M1 _ => ?_)
  refine mj_aload_n (pc := 7) (i := 1) rfl dd_Stand_save_7 ?_
  refine mj_iload_n (pc := 8) (i := 2) rfl dd_Stand_save_8 ?_
  refine mj_iconst (pc := 9) (v := (1 : Int32)) (by decide) dd_Stand_save_9 ?_
  refine mj_iadd (pc := 10) dd_Stand_save_10 ?_
  refine mj_aload_n (pc := 11) (i := 0) rfl dd_Stand_save_11 ?_
  refine mj_getI (pc := 12) (b := 20) (k := 1) qf_Stand_37 sh_20 cl_8 rfl (by decide) rfl dd_Stand_save_12 ?_
  refine mj_iast (pc := 15) sh_26 dd_Stand_save_15 (fun M2 _ => ?_)
  refine mj_aload_n (pc := 16) (i := 1) rfl dd_Stand_save_16 ?_
  refine mj_iload_n (pc := 17) (i := 2) rfl dd_Stand_save_17 ?_
  refine mj_iconst (pc := 18) (v := (2 : Int32)) (by decide) dd_Stand_save_18 ?_
  refine mj_iadd (pc := 19) dd_Stand_save_19 ?_
  refine mj_aload_n (pc := 20) (i := 0) rfl dd_Stand_save_20 ?_
  refine mj_getI (pc := 21) (b := 20) (k := 2) qf_Stand_41 sh_20 cl_8 rfl (by decide) rfl dd_Stand_save_21 ?_
  refine mj_iast (pc := 24) sh_26 dd_Stand_save_24 (fun M3 _ => ?_)
  refine mj_aload_n (pc := 25) (i := 1) rfl dd_Stand_save_25 ?_
  refine mj_iload_n (pc := 26) (i := 2) rfl dd_Stand_save_26 ?_
  refine mj_iconst (pc := 27) (v := (3 : Int32)) (by decide) dd_Stand_save_27 ?_
  refine mj_iadd (pc := 28) dd_Stand_save_28 ?_
  refine mj_aload_n (pc := 29) (i := 0) rfl dd_Stand_save_29 ?_
  refine mj_getI (pc := 30) (b := 20) (k := 3) qf_Stand_42 sh_20 cl_8 rfl (by decide) rfl dd_Stand_save_30 ?_
  refine mj_iast (pc := 33) sh_26 dd_Stand_save_33 (fun M4 _ => ?_)
  refine mj_aload_n (pc := 34) (i := 1) rfl dd_Stand_save_34 ?_
  refine mj_iload_n (pc := 35) (i := 2) rfl dd_Stand_save_35 ?_
  refine mj_iconst (pc := 36) (v := (4 : Int32)) (by decide) dd_Stand_save_36 ?_
  refine mj_iadd (pc := 37) dd_Stand_save_37 ?_
  refine mj_aload_n (pc := 38) (i := 0) rfl dd_Stand_save_38 ?_
  refine mj_getI (pc := 39) (b := 20) (k := 4) qf_Stand_45 sh_20 cl_8 rfl (by decide) rfl dd_Stand_save_39 ?_
  refine mj_iast (pc := 42) sh_26 dd_Stand_save_42 (fun M5 _ => ?_)
  refine mj_aload_n (pc := 43) (i := 1) rfl dd_Stand_save_43 ?_
  refine mj_iload_n (pc := 44) (i := 2) rfl dd_Stand_save_44 ?_
  refine mj_iconst (pc := 45) (v := (5 : Int32)) (by decide) dd_Stand_save_45 ?_
  refine mj_iadd (pc := 46) dd_Stand_save_46 ?_
  refine mj_aload_n (pc := 47) (i := 0) rfl dd_Stand_save_47 ?_
  refine mj_getI (pc := 48) (b := 20) (k := 5) qf_Stand_48 sh_20 cl_8 rfl (by decide) rfl dd_Stand_save_48 ?_
  refine mj_iast (pc := 51) sh_26 dd_Stand_save_51 (fun M6 _ => ?_)
  refine mj_aload_n (pc := 52) (i := 1) rfl dd_Stand_save_52 ?_
  refine mj_iload_n (pc := 53) (i := 2) rfl dd_Stand_save_53 ?_
  refine mj_bipush (pc := 54) (v := (6 : Int32)) (by decide) dd_Stand_save_54 ?_
  refine mj_iadd (pc := 56) dd_Stand_save_56 ?_
  refine mj_aload_n (pc := 57) (i := 0) rfl dd_Stand_save_57 ?_
  refine mj_getI (pc := 58) (b := 20) (k := 6) qf_Stand_51 sh_20 cl_8 rfl (by decide) rfl dd_Stand_save_58 ?_
  refine mj_iast (pc := 61) sh_26 dd_Stand_save_61 (fun M7 _ => ?_)
  refine mj_aload_n (pc := 62) (i := 0) rfl dd_Stand_save_62 ?_
  refine mj_getR (pc := 63) (b := 20) (k := 7) qf_Stand_13 sh_20 cl_8 rfl (by decide) (r := 21) rfl dd_Stand_save_63 ?_
  refine mj_iconst (pc := 66) (v := (0 : Int32)) (by decide) dd_Stand_save_66 ?_
  refine mj_aload_n (pc := 67) (i := 1) rfl dd_Stand_save_67 ?_
  refine mj_iload_n (pc := 68) (i := 2) rfl dd_Stand_save_68 ?_
  refine mj_bipush (pc := 69) (v := (7 : Int32)) (by decide) dd_Stand_save_69 ?_
  refine mj_iadd (pc := 71) dd_Stand_save_71 ?_
  refine mj_bipush (pc := 72) (v := (6 : Int32)) (by decide) dd_Stand_save_72 ?_
  refine mj_copy (pc := 74) (idx := 55) sh_21 sh_26 qm_Stand_55 (Nat.le_of_ble_eq_true rfl) dd_Stand_save_74 (fun M8 _ => ?_)
  refine mj_aload_n (pc := 77) (i := 0) rfl dd_Stand_save_77 ?_
  refine mj_getR (pc := 78) (b := 20) (k := 8) qf_Stand_17 sh_20 cl_8 rfl (by decide) (r := 22) rfl dd_Stand_save_78 ?_
  refine mj_iconst (pc := 81) (v := (0 : Int32)) (by decide) dd_Stand_save_81 ?_
  refine mj_aload_n (pc := 82) (i := 1) rfl dd_Stand_save_82 ?_
  refine mj_iload_n (pc := 83) (i := 2) rfl dd_Stand_save_83 ?_
  refine mj_bipush (pc := 84) (v := (7 : Int32)) (by decide) dd_Stand_save_84 ?_
  refine mj_iadd (pc := 86) dd_Stand_save_86 ?_
  refine mj_bipush (pc := 87) (v := (6 : Int32)) (by decide) dd_Stand_save_87 ?_
  refine mj_iadd (pc := 89) dd_Stand_save_89 ?_
  refine mj_bipush (pc := 90) (v := (36 : Int32)) (by decide) dd_Stand_save_90 ?_
  refine mj_copy (pc := 92) (idx := 55) sh_22 sh_26 qm_Stand_55 (Nat.le_of_ble_eq_true rfl) dd_Stand_save_92 (fun M9 _ => ?_)
  exact mj_vret dd_Stand_save_95 rfl rfl
def F_Past_keepImage_c20 (M : mj_M) : Option (mj_M) :=
    (F_Stand_save_c26 (0 : Int32) M).bind (fun q1 =>
     mj_ac (0 : Int32) (0 : Int32) (100 : Int32) 100 100 (mj_lt (mj_a q1 27 (va_cpy (q1 23) (q1 27) (0 : Int32).toNatClampNeg (0 : Int32).toNatClampNeg (100 : Int32).toNatClampNeg)) (fun M2 =>
     mj_lt (mj_u M2 24 1 (1 : Int32)) (fun M3 =>
     some M3))))
set_option maxRecDepth 20000 in
theorem T_Past_keepImage_c20 {g : mj_G} : ∀ d, 2 ≤ d → ∀ (M : mj_M), mj_Mt g (mj_qV g) d y_Past_keepImage c_Past_keepImage 2 none [.ref 24, .ref 20] M (F_Past_keepImage_c20 M) := by
  intro d hd M
  obtain ⟨e, rfl⟩ : ∃ e, d = e + 1 := ⟨d - 1, by omega⟩
  have he : 1 ≤ e := by omega
  refine mj_met (by decide +kernel) (Nat.le_of_ble_eq_true rfl) ?_
  unfold F_Past_keepImage_c20
  refine mj_L (L' := [(0, .ref 24), (1, .ref 20)]) [0, 1] rfl ?_
  refine mj_aload_n (pc := 0) (i := 1) rfl dd_Past_keepImage_0 ?_
  refine mj_aload_n (pc := 1) (i := 0) rfl dd_Past_keepImage_1 ?_
  refine mj_getR (pc := 2) (b := 24) (k := 4) qf_Past_15 sh_24 cl_6 rfl (by decide) (r := 26) rfl dd_Past_keepImage_2 ?_
  refine mj_iconst (pc := 5) (v := (0 : Int32)) (by decide) dd_Past_keepImage_5 ?_
  refine mj_callVV (pc := 6) (idx := 32) (b := 20) (As := [.ref 26, .int (0 : Int32)]) (st := []) sh_20 cl_8 ev_Stand_save ql_Past_32 rfl (Nat.le_of_ble_eq_true rfl) (T_Stand_save_c26 (g := g) e (by omega) (0 : Int32) M) dd_Past_keepImage_6 (fun q1 hq1 => ?_)
  refine mj_aload_n (pc := 9) (i := 1) rfl dd_Past_keepImage_9 ?_
  refine mj_getR (pc := 10) (b := 20) (k := 9) qf_Past_45 sh_20 cl_8 rfl (by decide) (r := 23) rfl dd_Past_keepImage_10 ?_
  refine mj_iconst (pc := 13) (v := (0 : Int32)) (by decide) dd_Past_keepImage_13 ?_
  refine mj_aload_n (pc := 14) (i := 0) rfl dd_Past_keepImage_14 ?_
  refine mj_getR (pc := 15) (b := 24) (k := 5) qf_Past_18 sh_24 cl_6 rfl (by decide) (r := 27) rfl dd_Past_keepImage_15 ?_
  refine mj_iconst (pc := 18) (v := (0 : Int32)) (by decide) dd_Past_keepImage_18 ?_
  refine mj_bipush (pc := 19) (v := (100 : Int32)) (by decide) dd_Past_keepImage_19 ?_
  refine mj_copy (pc := 21) (idx := 48) sh_23 sh_27 qm_Past_48 (Nat.le_of_ble_eq_true rfl) dd_Past_keepImage_21 (fun M2 _ => ?_)
  refine mj_aload_n (pc := 24) (i := 0) rfl dd_Past_keepImage_24 ?_
  refine mj_iconst (pc := 25) (v := (1 : Int32)) (by decide) dd_Past_keepImage_25 ?_
  refine mj_putZ (pc := 26) (b := 24) (k := 1) qf_Past_25 sh_24 cl_6 rfl (by decide) (by decide) (by decide) rfl rfl rfl dd_Past_keepImage_26 (fun M3 _ => ?_)
  exact mj_vret dd_Past_keepImage_29 rfl rfl
def F_W_image (M : mj_M) : Option (Int32 × mj_M) :=
    (F_Coast_isTold M).bind (fun q1 =>
     if q1.1 = (0) then
     (some ((-1 : Int32), q1.2))
     else
     ((F_Past_keepImage_c20 q1.2).bind (fun q3 =>
     some (q3 20 3, q3))))
set_option maxRecDepth 20000 in
theorem T_W_image {g : mj_G} : ∀ d, 3 ≤ d → ∀ (M : mj_M), mj_Mt g (mj_qI g) d y_W_image c_W_image 1 (some .int) [.ref 0] M (F_W_image M) := by
  intro d hd M
  obtain ⟨e, rfl⟩ : ∃ e, d = e + 1 := ⟨d - 1, by omega⟩
  have he : 2 ≤ e := by omega
  refine mj_met (by decide +kernel) (Nat.le_of_ble_eq_true rfl) ?_
  unfold F_W_image
  refine mj_L (L' := [(0, .ref 0)]) [0] rfl ?_
  refine mj_aload_n (pc := 0) (i := 0) rfl dd_W_image_0 ?_
  refine mj_getR (pc := 1) (b := 0) (k := 4) qf_W_42 sh_0 cl_11 rfl (by decide) (r := 13) rfl dd_W_image_1 ?_
  refine mj_callVI (pc := 4) (idx := 235) (b := 13) (As := []) (st := []) sh_13 cl_0 ev_Coast_isTold ql_W_235 rfl (Nat.le_of_ble_eq_true rfl) (T_Coast_isTold (g := g) e (by omega) M) dd_W_image_4 (fun q1 hq1 => ?_)
  refine mj_if_ne (pc := 7) (tgt := 12) dd_W_image_7 rfl (fun h2 => ?_) (fun h2 => ?_)
  · refine mj_iconst (pc := 10) (v := (-1 : Int32)) (by decide) dd_W_image_10 ?_
    exact mj_iret dd_W_image_11 rfl rfl
  · refine mj_aload_n (pc := 12) (i := 0) rfl dd_W_image_12 ?_
    refine mj_getR (pc := 13) (b := 0) (k := 6) qf_W_56 sh_0 cl_11 rfl (by decide) (r := 24) rfl dd_W_image_13 ?_
    refine mj_aload_n (pc := 16) (i := 0) rfl dd_W_image_16 ?_
    refine mj_getR (pc := 17) (b := 0) (k := 5) qf_W_49 sh_0 cl_11 rfl (by decide) (r := 20) rfl dd_W_image_17 ?_
    refine mj_callVV (pc := 20) (idx := 365) (b := 24) (As := [.ref 20]) (st := []) sh_24 cl_6 ev_Past_keepImage ql_W_365 rfl (Nat.le_of_ble_eq_true rfl) (T_Past_keepImage_c20 (g := g) e (by omega) q1.2) dd_W_image_20 (fun q3 hq3 => ?_)
    refine mj_aload_n (pc := 23) (i := 0) rfl dd_W_image_23 ?_
    refine mj_getR (pc := 24) (b := 0) (k := 5) qf_W_49 sh_0 cl_11 rfl (by decide) (r := 20) rfl dd_W_image_24 ?_
    refine mj_getI (pc := 27) (b := 20) (k := 3) qf_W_224 sh_20 cl_8 rfl (by decide) rfl dd_W_image_27 ?_
    exact mj_iret dd_W_image_30 rfl rfl
def F_M_image_b11 (N : Nat) : Nat → Int32 → mj_M → Option (Int32 × mj_M)
  | 0, _, _ => none
  | n + 1, x1, M =>
    if (229 : Int32) ≤ x1 then
     (mj_lt (mj_u M 48 44 (1 : Int32)) (fun M3 =>
     some (M3 65 45, M3)))
     else
     (mj_ck x1 229 (
     mj_ck x1 229 (mj_lt (mj_u M 72 x1.toNatClampNeg (M 65 x1.toNatClampNeg)) (fun M4 =>
     F_M_image_b11 N n (x1 + (1 : Int32)) M4))))
set_option maxRecDepth 20000 in
theorem T_M_image_b11 {g : mj_G} (N : Nat) (e : Nat) (he : 0 ≤ e) : ∀ (n : Nat) (x1 : Int32) (M : mj_M), mj_X g (mj_qI g) "WinterTellersModel" c_M_image 2 (some .int) e 11 [(0, .ref 48), (1, .int x1)] [] M (F_M_image_b11 N n x1 M) := by
  intro n
  induction n with
  | zero => intro x1 M; exact mj_none
  | succ n ih =>
    intro x1 M
    rw [F_M_image_b11]
    refine mj_iload_n (pc := 11) (i := 1) rfl dd_M_image_11 ?_
    refine mj_sipush (pc := 12) (v := (229 : Int32)) (by decide) dd_M_image_12 ?_
    refine mj_icmp_ge (pc := 15) (tgt := 36) dd_M_image_15 rfl (fun h2 => ?_) (fun h2 => ?_)
    · refine mj_aload_n (pc := 36) (i := 0) rfl dd_M_image_36 ?_
      refine mj_iconst (pc := 37) (v := (1 : Int32)) (by decide) dd_M_image_37 ?_
      refine mj_putZ (pc := 38) (b := 48) (k := 44) qf_M_260 sh_48 cl_12 rfl (by decide) (by decide) (by decide) rfl rfl rfl dd_M_image_38 (fun M3 _ => ?_)
      refine mj_aload_n (pc := 41) (i := 0) rfl dd_M_image_41 ?_
      refine mj_getR (pc := 42) (b := 48) (k := 27) qf_M_58 sh_48 cl_12 rfl (by decide) (r := 65) rfl dd_M_image_42 ?_
      refine mj_bipush (pc := 45) (v := (45 : Int32)) (by decide) dd_M_image_45 ?_
      refine mj_ialdK (pc := 47) (j := 45) sh_65 (by decide) rfl dd_M_image_47 ?_
      exact mj_iret dd_M_image_48 rfl rfl
    · refine mj_aload_n (pc := 18) (i := 0) rfl dd_M_image_18 ?_
      refine mj_getR (pc := 19) (b := 48) (k := 43) qf_M_87 sh_48 cl_12 rfl (by decide) (r := 72) rfl dd_M_image_19 ?_
      refine mj_iload_n (pc := 22) (i := 1) rfl dd_M_image_22 ?_
      refine mj_aload_n (pc := 23) (i := 0) rfl dd_M_image_23 ?_
      refine mj_getR (pc := 24) (b := 48) (k := 27) qf_M_58 sh_48 cl_12 rfl (by decide) (r := 65) rfl dd_M_image_24 ?_
      refine mj_iload_n (pc := 27) (i := 1) rfl dd_M_image_27 ?_
      refine mj_iald (pc := 28) sh_65 dd_M_image_28 ?_
      refine mj_iast (pc := 29) sh_72 dd_M_image_29 (fun M4 _ => ?_)
      refine mj_iinc (pc := 30) (i := 1) (z := (1 : Int32)) rfl (by decide) (by decide) dd_M_image_30 ?_
      refine mj_L (L' := [(1, .int (x1 + (1 : Int32))), (0, .ref 48)]) [0, 1] rfl ?_
      refine mj_goto (pc := 33) (tgt := 11) dd_M_image_33 rfl ?_
      refine mj_L (L' := [(0, .ref 48), (1, .int (x1 + (1 : Int32)))]) [1, 0] rfl ?_
      exact ih (x1 + (1 : Int32)) M4
def F_M_image (N : Nat) (M : mj_M) : Option (Int32 × mj_M) :=
    if (M 48 25) = (0) then
     (some ((-1 : Int32), M))
     else
     (F_M_image_b11 N N (0 : Int32) M)
set_option maxRecDepth 20000 in
theorem T_M_image {g : mj_G} (N : Nat) : ∀ d, 1 ≤ d → ∀ (M : mj_M), mj_Mt g (mj_qI g) d y_M_image c_M_image 2 (some .int) [.ref 48] M (F_M_image N M) := by
  intro d hd M
  obtain ⟨e, rfl⟩ : ∃ e, d = e + 1 := ⟨d - 1, by omega⟩
  have he : 0 ≤ e := by omega
  refine mj_met (by decide +kernel) (Nat.le_of_ble_eq_true rfl) ?_
  unfold F_M_image
  refine mj_L (L' := [(0, .ref 48)]) [0] rfl ?_
  refine mj_aload_n (pc := 0) (i := 0) rfl dd_M_image_0 ?_
  refine mj_getI (pc := 1) (b := 48) (k := 25) qf_M_242 sh_48 cl_12 rfl (by decide) rfl dd_M_image_1 ?_
  refine mj_if_ne (pc := 4) (tgt := 9) dd_M_image_4 rfl (fun h1 => ?_) (fun h1 => ?_)
  · refine mj_iconst (pc := 7) (v := (-1 : Int32)) (by decide) dd_M_image_7 ?_
    exact mj_iret dd_M_image_8 rfl rfl
  · refine mj_iconst (pc := 9) (v := (0 : Int32)) (by decide) dd_M_image_9 ?_
    refine mj_istore_n (pc := 10) (by decide) dd_M_image_10 ?_
    refine mj_L (L' := [(1, .int (0 : Int32)), (0, .ref 48)]) [0, 1] rfl ?_
    refine mj_L (L' := [(0, .ref 48), (1, .int (0 : Int32))]) [1, 0] rfl ?_
    exact T_M_image_b11 (g := g) N e he N (0 : Int32) M
def F_Stand_load_c26 (x2 : Int32) (M : mj_M) : Option (mj_M) :=
    mj_ck x2 49 (
     mj_lt (mj_u M 20 0 (M 26 x2.toNatClampNeg)) (fun M1 =>
     mj_ck (x2 + (1 : Int32)) 49 (
     mj_lt (mj_u M1 20 1 (M1 26 (x2 + (1 : Int32)).toNatClampNeg)) (fun M2 =>
     mj_ck (x2 + (2 : Int32)) 49 (
     mj_lt (mj_u M2 20 2 (M2 26 (x2 + (2 : Int32)).toNatClampNeg)) (fun M3 =>
     mj_ck (x2 + (3 : Int32)) 49 (
     mj_lt (mj_u M3 20 3 (M3 26 (x2 + (3 : Int32)).toNatClampNeg)) (fun M4 =>
     mj_ck (x2 + (4 : Int32)) 49 (
     mj_lt (mj_u M4 20 4 (M4 26 (x2 + (4 : Int32)).toNatClampNeg)) (fun M5 =>
     mj_ck (x2 + (5 : Int32)) 49 (
     mj_lt (mj_u M5 20 5 (M5 26 (x2 + (5 : Int32)).toNatClampNeg)) (fun M6 =>
     mj_ck (x2 + (6 : Int32)) 49 (
     mj_lt (mj_u M6 20 6 (M6 26 (x2 + (6 : Int32)).toNatClampNeg)) (fun M7 =>
     mj_ac (x2 + (7 : Int32)) (0 : Int32) (6 : Int32) 49 6 (mj_lt (mj_a M7 21 (va_cpy (M7 26) (M7 21) (x2 + (7 : Int32)).toNatClampNeg (0 : Int32).toNatClampNeg (6 : Int32).toNatClampNeg)) (fun M8 =>
     mj_ac ((x2 + (7 : Int32)) + (6 : Int32)) (0 : Int32) (36 : Int32) 49 36 (mj_lt (mj_a M8 22 (va_cpy (M8 26) (M8 22) ((x2 + (7 : Int32)) + (6 : Int32)).toNatClampNeg (0 : Int32).toNatClampNeg (36 : Int32).toNatClampNeg)) (fun M9 =>
     some M9))))))))))))))))))
set_option maxRecDepth 20000 in
theorem T_Stand_load_c26 {g : mj_G} : ∀ d, 1 ≤ d → ∀ (x2 : Int32) (M : mj_M), mj_Mt g (mj_qV g) d y_Stand_load c_Stand_load 3 none [.ref 20, .ref 26, .int x2] M (F_Stand_load_c26 x2 M) := by
  intro d hd x2 M
  obtain ⟨e, rfl⟩ : ∃ e, d = e + 1 := ⟨d - 1, by omega⟩
  have he : 0 ≤ e := by omega
  refine mj_met (by decide +kernel) (Nat.le_of_ble_eq_true rfl) ?_
  unfold F_Stand_load_c26
  refine mj_L (L' := [(0, .ref 20), (1, .ref 26), (2, .int x2)]) [0, 1, 2] rfl ?_
  refine mj_aload_n (pc := 0) (i := 0) rfl dd_Stand_load_0 ?_
  refine mj_aload_n (pc := 1) (i := 1) rfl dd_Stand_load_1 ?_
  refine mj_iload_n (pc := 2) (i := 2) rfl dd_Stand_load_2 ?_
  refine mj_iald (pc := 3) sh_26 dd_Stand_load_3 ?_
  refine mj_putI (pc := 4) (b := 20) (k := 0) qf_Stand_29 sh_20 cl_8 rfl (by decide) (by decide) rfl rfl rfl dd_Stand_load_4 (fun M1 _ => ?_)
  refine mj_aload_n (pc := 7) (i := 0) rfl dd_Stand_load_7 ?_
  refine mj_aload_n (pc := 8) (i := 1) rfl dd_Stand_load_8 ?_
  refine mj_iload_n (pc := 9) (i := 2) rfl dd_Stand_load_9 ?_
  refine mj_iconst (pc := 10) (v := (1 : Int32)) (by decide) dd_Stand_load_10 ?_
  refine mj_iadd (pc := 11) dd_Stand_load_11 ?_
  refine mj_iald (pc := 12) sh_26 dd_Stand_load_12 ?_
  refine mj_putI (pc := 13) (b := 20) (k := 1) qf_Stand_37 sh_20 cl_8 rfl (by decide) (by decide) rfl rfl rfl dd_Stand_load_13 (fun M2 _ => ?_)
  refine mj_aload_n (pc := 16) (i := 0) rfl dd_Stand_load_16 ?_
  refine mj_aload_n (pc := 17) (i := 1) rfl dd_Stand_load_17 ?_
  refine mj_iload_n (pc := 18) (i := 2) rfl dd_Stand_load_18 ?_
  refine mj_iconst (pc := 19) (v := (2 : Int32)) (by decide) dd_Stand_load_19 ?_
  refine mj_iadd (pc := 20) dd_Stand_load_20 ?_
  refine mj_iald (pc := 21) sh_26 dd_Stand_load_21 ?_
  refine mj_putI (pc := 22) (b := 20) (k := 2) qf_Stand_41 sh_20 cl_8 rfl (by decide) (by decide) rfl rfl rfl dd_Stand_load_22 (fun M3 _ => ?_)
  refine mj_aload_n (pc := 25) (i := 0) rfl dd_Stand_load_25 ?_
  refine mj_aload_n (pc := 26) (i := 1) rfl dd_Stand_load_26 ?_
  refine mj_iload_n (pc := 27) (i := 2) rfl dd_Stand_load_27 ?_
  refine mj_iconst (pc := 28) (v := (3 : Int32)) (by decide) dd_Stand_load_28 ?_
  refine mj_iadd (pc := 29) dd_Stand_load_29 ?_
  refine mj_iald (pc := 30) sh_26 dd_Stand_load_30 ?_
  refine mj_putI (pc := 31) (b := 20) (k := 3) qf_Stand_42 sh_20 cl_8 rfl (by decide) (by decide) rfl rfl rfl dd_Stand_load_31 (fun M4 _ => ?_)
  refine mj_aload_n (pc := 34) (i := 0) rfl dd_Stand_load_34 ?_
  refine mj_aload_n (pc := 35) (i := 1) rfl dd_Stand_load_35 ?_
  refine mj_iload_n (pc := 36) (i := 2) rfl dd_Stand_load_36 ?_
  refine mj_iconst (pc := 37) (v := (4 : Int32)) (by decide) dd_Stand_load_37 ?_
  refine mj_iadd (pc := 38) dd_Stand_load_38 ?_
  refine mj_iald (pc := 39) sh_26 dd_Stand_load_39 ?_
  refine mj_putI (pc := 40) (b := 20) (k := 4) qf_Stand_45 sh_20 cl_8 rfl (by decide) (by decide) rfl rfl rfl dd_Stand_load_40 (fun M5 _ => ?_)
  refine mj_aload_n (pc := 43) (i := 0) rfl dd_Stand_load_43 ?_
  refine mj_aload_n (pc := 44) (i := 1) rfl dd_Stand_load_44 ?_
  refine mj_iload_n (pc := 45) (i := 2) rfl dd_Stand_load_45 ?_
  refine mj_iconst (pc := 46) (v := (5 : Int32)) (by decide) dd_Stand_load_46 ?_
  refine mj_iadd (pc := 47) dd_Stand_load_47 ?_
  refine mj_iald (pc := 48) sh_26 dd_Stand_load_48 ?_
  refine mj_putI (pc := 49) (b := 20) (k := 5) qf_Stand_48 sh_20 cl_8 rfl (by decide) (by decide) rfl rfl rfl dd_Stand_load_49 (fun M6 _ => ?_)
  refine mj_aload_n (pc := 52) (i := 0) rfl dd_Stand_load_52 ?_
  refine mj_aload_n (pc := 53) (i := 1) rfl dd_Stand_load_53 ?_
  refine mj_iload_n (pc := 54) (i := 2) rfl dd_Stand_load_54 ?_
  refine mj_bipush (pc := 55) (v := (6 : Int32)) (by decide) dd_Stand_load_55 ?_
  refine mj_iadd (pc := 57) dd_Stand_load_57 ?_
  refine mj_iald (pc := 58) sh_26 dd_Stand_load_58 ?_
  refine mj_putI (pc := 59) (b := 20) (k := 6) qf_Stand_51 sh_20 cl_8 rfl (by decide) (by decide) rfl rfl rfl dd_Stand_load_59 (fun M7 _ => ?_)
  refine mj_aload_n (pc := 62) (i := 1) rfl dd_Stand_load_62 ?_
  refine mj_iload_n (pc := 63) (i := 2) rfl dd_Stand_load_63 ?_
  refine mj_bipush (pc := 64) (v := (7 : Int32)) (by decide) dd_Stand_load_64 ?_
  refine mj_iadd (pc := 66) dd_Stand_load_66 ?_
  refine mj_aload_n (pc := 67) (i := 0) rfl dd_Stand_load_67 ?_
  refine mj_getR (pc := 68) (b := 20) (k := 7) qf_Stand_13 sh_20 cl_8 rfl (by decide) (r := 21) rfl dd_Stand_load_68 ?_
  refine mj_iconst (pc := 71) (v := (0 : Int32)) (by decide) dd_Stand_load_71 ?_
  refine mj_bipush (pc := 72) (v := (6 : Int32)) (by decide) dd_Stand_load_72 ?_
  refine mj_copy (pc := 74) (idx := 55) sh_26 sh_21 qm_Stand_55 (Nat.le_of_ble_eq_true rfl) dd_Stand_load_74 (fun M8 _ => ?_)
  refine mj_aload_n (pc := 77) (i := 1) rfl dd_Stand_load_77 ?_
  refine mj_iload_n (pc := 78) (i := 2) rfl dd_Stand_load_78 ?_
  refine mj_bipush (pc := 79) (v := (7 : Int32)) (by decide) dd_Stand_load_79 ?_
  refine mj_iadd (pc := 81) dd_Stand_load_81 ?_
  refine mj_bipush (pc := 82) (v := (6 : Int32)) (by decide) dd_Stand_load_82 ?_
  refine mj_iadd (pc := 84) dd_Stand_load_84 ?_
  refine mj_aload_n (pc := 85) (i := 0) rfl dd_Stand_load_85 ?_
  refine mj_getR (pc := 86) (b := 20) (k := 8) qf_Stand_17 sh_20 cl_8 rfl (by decide) (r := 22) rfl dd_Stand_load_86 ?_
  refine mj_iconst (pc := 89) (v := (0 : Int32)) (by decide) dd_Stand_load_89 ?_
  refine mj_bipush (pc := 90) (v := (36 : Int32)) (by decide) dd_Stand_load_90 ?_
  refine mj_copy (pc := 92) (idx := 55) sh_26 sh_22 qm_Stand_55 (Nat.le_of_ble_eq_true rfl) dd_Stand_load_92 (fun M9 _ => ?_)
  exact mj_vret dd_Stand_load_95 rfl rfl
def F_Past_takeImage_c20 (M : mj_M) : Option (mj_M) :=
    (F_Stand_load_c26 (0 : Int32) M).bind (fun q1 =>
     mj_ac (0 : Int32) (0 : Int32) (100 : Int32) 100 100 (mj_lt (mj_a q1 23 (va_cpy (q1 27) (q1 23) (0 : Int32).toNatClampNeg (0 : Int32).toNatClampNeg (100 : Int32).toNatClampNeg)) (fun M2 =>
     mj_lt (mj_u M2 24 0 (0 : Int32)) (fun M3 =>
     some M3))))
set_option maxRecDepth 20000 in
theorem T_Past_takeImage_c20 {g : mj_G} : ∀ d, 2 ≤ d → ∀ (M : mj_M), mj_Mt g (mj_qV g) d y_Past_takeImage c_Past_takeImage 2 none [.ref 24, .ref 20] M (F_Past_takeImage_c20 M) := by
  intro d hd M
  obtain ⟨e, rfl⟩ : ∃ e, d = e + 1 := ⟨d - 1, by omega⟩
  have he : 1 ≤ e := by omega
  refine mj_met (by decide +kernel) (Nat.le_of_ble_eq_true rfl) ?_
  unfold F_Past_takeImage_c20
  refine mj_L (L' := [(0, .ref 24), (1, .ref 20)]) [0, 1] rfl ?_
  refine mj_aload_n (pc := 0) (i := 1) rfl dd_Past_takeImage_0 ?_
  refine mj_aload_n (pc := 1) (i := 0) rfl dd_Past_takeImage_1 ?_
  refine mj_getR (pc := 2) (b := 24) (k := 4) qf_Past_15 sh_24 cl_6 rfl (by decide) (r := 26) rfl dd_Past_takeImage_2 ?_
  refine mj_iconst (pc := 5) (v := (0 : Int32)) (by decide) dd_Past_takeImage_5 ?_
  refine mj_callVV (pc := 6) (idx := 42) (b := 20) (As := [.ref 26, .int (0 : Int32)]) (st := []) sh_20 cl_8 ev_Stand_load ql_Past_42 rfl (Nat.le_of_ble_eq_true rfl) (T_Stand_load_c26 (g := g) e (by omega) (0 : Int32) M) dd_Past_takeImage_6 (fun q1 hq1 => ?_)
  refine mj_aload_n (pc := 9) (i := 0) rfl dd_Past_takeImage_9 ?_
  refine mj_getR (pc := 10) (b := 24) (k := 5) qf_Past_18 sh_24 cl_6 rfl (by decide) (r := 27) rfl dd_Past_takeImage_10 ?_
  refine mj_iconst (pc := 13) (v := (0 : Int32)) (by decide) dd_Past_takeImage_13 ?_
  refine mj_aload_n (pc := 14) (i := 1) rfl dd_Past_takeImage_14 ?_
  refine mj_getR (pc := 15) (b := 20) (k := 9) qf_Past_45 sh_20 cl_8 rfl (by decide) (r := 23) rfl dd_Past_takeImage_15 ?_
  refine mj_iconst (pc := 18) (v := (0 : Int32)) (by decide) dd_Past_takeImage_18 ?_
  refine mj_bipush (pc := 19) (v := (100 : Int32)) (by decide) dd_Past_takeImage_19 ?_
  refine mj_copy (pc := 21) (idx := 48) sh_27 sh_23 qm_Past_48 (Nat.le_of_ble_eq_true rfl) dd_Past_takeImage_21 (fun M2 _ => ?_)
  refine mj_aload_n (pc := 24) (i := 0) rfl dd_Past_takeImage_24 ?_
  refine mj_iconst (pc := 25) (v := (0 : Int32)) (by decide) dd_Past_takeImage_25 ?_
  refine mj_putI (pc := 26) (b := 24) (k := 0) qf_Past_21 sh_24 cl_6 rfl (by decide) (by decide) rfl rfl rfl dd_Past_takeImage_26 (fun M3 _ => ?_)
  exact mj_vret dd_Past_takeImage_29 rfl rfl
