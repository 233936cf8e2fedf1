/-! ===== functions and their proofs ===== -/
def F_M_sum_body_b59 (N : Nat) (K : mj_M → Option (mj_M)) (k21 : Int32 → mj_M → Option (mj_M)) (s1 : Int32) (M : mj_M) : Option (mj_M) :=
    (F_M_put s1 (0 : Int32) M).bind (fun q9 =>
     if (q9 48 4) = (-1 : Int32) then
     ((F_M_look N q9).bind (fun q11 =>
     k21 q11.1 q11.2))
     else
     (k21 (-1 : Int32) q9))
set_option maxRecDepth 20000 in
theorem T_M_sum_body_b59 {g : mj_G} (N : Nat) (K : mj_M → Option (mj_M)) (dk : Nat) (hdk : 8 ≤ dk) (hK : ∀ e, dk ≤ e → ∀ (M : mj_M), mj_Mt g (mj_qV g) e y_M_sum c_M_sum 2 none [.ref 48] M (K M)) (e : Nat) (he : dk + 2 ≤ e) (k21 : Int32 → mj_M → Option (mj_M)) (hk21 : ∀ (x1 : Int32) (M : mj_M), mj_X g (mj_qV g) "WinterTellersModel" c_M_sum 2 none e 21 [(0, .ref 48), (1, .int x1)] [] M (k21 x1 M)) (s1 : Int32) (M : mj_M) : mj_X g (mj_qV g) "WinterTellersModel" c_M_sum 2 none e 59 [(0, .ref 48)] [.int s1, .ref 48] M (F_M_sum_body_b59 N K k21 s1 M) := by
  unfold F_M_sum_body_b59
  refine mj_iconst (pc := 59) (v := (0 : Int32)) (by decide) dd_M_sum_59 ?_
  refine mj_callVV (pc := 60) (idx := 129) (b := 48) (As := [.int s1, .int (0 : Int32)]) (st := []) sh_48 cl_12 ev_M_put ql_M_129 rfl (Nat.le_of_ble_eq_true rfl) (T_M_put (g := g) e (by omega) s1 (0 : Int32) M) dd_M_sum_60 (fun q9 hq9 => ?_)
  refine mj_aload_n (pc := 63) (i := 0) rfl dd_M_sum_63 ?_
  refine mj_getI (pc := 64) (b := 48) (k := 4) qf_M_107 sh_48 cl_12 rfl (by decide) rfl dd_M_sum_64 ?_
  refine mj_iconst (pc := 67) (v := (-1 : Int32)) (by decide) dd_M_sum_67 ?_
  refine mj_icmp_ne (pc := 68) (tgt := 78) dd_M_sum_68 rfl (fun h10 => ?_) (fun h10 => ?_)
  · refine mj_aload_n (pc := 71) (i := 0) rfl dd_M_sum_71 ?_
    refine mj_callVI (pc := 72) (idx := 119) (b := 48) (As := []) (st := []) sh_48 cl_12 ev_M_look ql_M_119 rfl (Nat.le_of_ble_eq_true rfl) (T_M_look (g := g) N e (by omega) q9) dd_M_sum_72 (fun q11 hq11 => ?_)
    refine mj_goto (pc := 75) (tgt := 79) dd_M_sum_75 rfl ?_
    refine mj_istore_n (pc := 79) (by decide) dd_M_sum_79 ?_
    refine mj_L (L' := [(1, .int q11.1), (0, .ref 48)]) [0, 1] rfl ?_
    refine mj_goto (pc := 80) (tgt := 21) dd_M_sum_80 rfl ?_
    refine mj_L (L' := [(0, .ref 48), (1, .int q11.1)]) [1, 0] rfl ?_
    exact hk21 q11.1 q11.2
  · refine mj_iconst (pc := 78) (v := (-1 : Int32)) (by decide) dd_M_sum_78 ?_
    refine mj_istore_n (pc := 79) (by decide) dd_M_sum_79 ?_
    refine mj_L (L' := [(1, .int (-1 : Int32)), (0, .ref 48)]) [0, 1] rfl ?_
    refine mj_goto (pc := 80) (tgt := 21) dd_M_sum_80 rfl ?_
    refine mj_L (L' := [(0, .ref 48), (1, .int (-1 : Int32))]) [1, 0] rfl ?_
    exact hk21 (-1 : Int32) q9
def F_M_sum_body_b33 (N : Nat) (K : mj_M → Option (mj_M)) (k21 : Int32 → mj_M → Option (mj_M)) (x1 : Int32) (M : mj_M) : Option (mj_M) :=
    mj_lt (mj_u M 48 3 ((M 48 3) + (1 : Int32))) (fun M6 =>
     (F_M_term N K M6).bind (fun q7 =>
     if x1 = (43 : Int32) then
     (F_M_sum_body_b59 N K k21 (2 : Int32) q7)
     else
     (F_M_sum_body_b59 N K k21 (3 : Int32) q7)))
set_option maxRecDepth 20000 in
theorem T_M_sum_body_b33 {g : mj_G} (N : Nat) (K : mj_M → Option (mj_M)) (dk : Nat) (hdk : 8 ≤ dk) (hK : ∀ e, dk ≤ e → ∀ (M : mj_M), mj_Mt g (mj_qV g) e y_M_sum c_M_sum 2 none [.ref 48] M (K M)) (e : Nat) (he : dk + 2 ≤ e) (k21 : Int32 → mj_M → Option (mj_M)) (hk21 : ∀ (x1 : Int32) (M : mj_M), mj_X g (mj_qV g) "WinterTellersModel" c_M_sum 2 none e 21 [(0, .ref 48), (1, .int x1)] [] M (k21 x1 M)) (x1 : Int32) (M : mj_M) : mj_X g (mj_qV g) "WinterTellersModel" c_M_sum 2 none e 33 [(0, .ref 48), (1, .int x1)] [] M (F_M_sum_body_b33 N K k21 x1 M) := by
  unfold F_M_sum_body_b33
  refine mj_aload_n (pc := 33) (i := 0) rfl dd_M_sum_33 ?_
  refine mj_dup (pc := 34) rfl dd_M_sum_34 ?_
  refine mj_getI (pc := 35) (b := 48) (k := 3) qf_M_100 sh_48 cl_12 rfl (by decide) rfl dd_M_sum_35 ?_
  refine mj_iconst (pc := 38) (v := (1 : Int32)) (by decide) dd_M_sum_38 ?_
  refine mj_iadd (pc := 39) dd_M_sum_39 ?_
  refine mj_putI (pc := 40) (b := 48) (k := 3) qf_M_100 sh_48 cl_12 rfl (by decide) (by decide) rfl rfl rfl dd_M_sum_40 (fun M6 _ => ?_)
  refine mj_aload_n (pc := 43) (i := 0) rfl dd_M_sum_43 ?_
  refine mj_callVV (pc := 44) (idx := 150) (b := 48) (As := []) (st := []) sh_48 cl_12 ev_M_term ql_M_150 rfl (Nat.le_of_ble_eq_true rfl) (T_M_term (g := g) N K dk hdk hK e (by omega) M6) dd_M_sum_44 (fun q7 hq7 => ?_)
  refine mj_aload_n (pc := 47) (i := 0) rfl dd_M_sum_47 ?_
  refine mj_iload_n (pc := 48) (i := 1) rfl dd_M_sum_48 ?_
  refine mj_bipush (pc := 49) (v := (43 : Int32)) (by decide) dd_M_sum_49 ?_
  refine mj_icmp_ne (pc := 51) (tgt := 58) dd_M_sum_51 rfl (fun h8 => ?_) (fun h8 => ?_)
  · refine mj_iconst (pc := 54) (v := (2 : Int32)) (by decide) dd_M_sum_54 ?_
    refine mj_goto (pc := 55) (tgt := 59) dd_M_sum_55 rfl ?_
    refine mj_L (L' := [(0, .ref 48)]) [0] rfl ?_
    exact T_M_sum_body_b59 (g := g) N K dk hdk hK e he k21 hk21 (2 : Int32) q7
  · refine mj_iconst (pc := 58) (v := (3 : Int32)) (by decide) dd_M_sum_58 ?_
    refine mj_L (L' := [(0, .ref 48)]) [0] rfl ?_
    exact T_M_sum_body_b59 (g := g) N K dk hdk hK e he k21 hk21 (3 : Int32) q7
def F_M_sum_body_b21 (N : Nat) (K : mj_M → Option (mj_M)) : Nat → Int32 → mj_M → Option (mj_M)
  | 0, _, _ => none
  | n + 1, x1, M =>
    if x1 = (43 : Int32) then
     (F_M_sum_body_b33 N K (F_M_sum_body_b21 N K n) x1 M)
     else
     (if x1 = (45 : Int32) then
     (F_M_sum_body_b33 N K (F_M_sum_body_b21 N K n) x1 M)
     else
     (some M))
set_option maxRecDepth 20000 in
theorem T_M_sum_body_b21 {g : mj_G} (N : Nat) (K : mj_M → Option (mj_M)) (dk : Nat) (hdk : 8 ≤ dk) (hK : ∀ e, dk ≤ e → ∀ (M : mj_M), mj_Mt g (mj_qV g) e y_M_sum c_M_sum 2 none [.ref 48] M (K M)) (e : Nat) (he : dk + 2 ≤ e) : ∀ (n : Nat) (x1 : Int32) (M : mj_M), mj_X g (mj_qV g) "WinterTellersModel" c_M_sum 2 none e 21 [(0, .ref 48), (1, .int x1)] [] M (F_M_sum_body_b21 N K n x1 M) := by
  intro n
  induction n with
  | zero => intro x1 M; exact mj_none
  | succ n ih =>
    intro x1 M
    rw [F_M_sum_body_b21]
    refine mj_iload_n (pc := 21) (i := 1) rfl dd_M_sum_21 ?_
    refine mj_bipush (pc := 22) (v := (43 : Int32)) (by decide) dd_M_sum_22 ?_
    refine mj_icmp_eq (pc := 24) (tgt := 33) dd_M_sum_24 rfl (fun h4 => ?_) (fun h4 => ?_)
    · refine mj_L (L' := [(0, .ref 48), (1, .int x1)]) [0, 1] rfl ?_
      exact T_M_sum_body_b33 (g := g) N K dk hdk hK e he (F_M_sum_body_b21 N K n) ih x1 M
    · refine mj_iload_n (pc := 27) (i := 1) rfl dd_M_sum_27 ?_
      refine mj_bipush (pc := 28) (v := (45 : Int32)) (by decide) dd_M_sum_28 ?_
      refine mj_icmp_ne (pc := 30) (tgt := 83) dd_M_sum_30 rfl (fun h5 => ?_) (fun h5 => ?_)
      · refine mj_L (L' := [(0, .ref 48), (1, .int x1)]) [0, 1] rfl ?_
        exact T_M_sum_body_b33 (g := g) N K dk hdk hK e he (F_M_sum_body_b21 N K n) ih x1 M
      · exact mj_vret dd_M_sum_83 rfl rfl
def F_M_sum_body (N : Nat) (K : mj_M → Option (mj_M)) (M : mj_M) : Option (mj_M) :=
    (F_M_term N K M).bind (fun q1 =>
     if (q1 48 4) = (-1 : Int32) then
     ((F_M_look N q1).bind (fun q3 =>
     F_M_sum_body_b21 N K N q3.1 q3.2))
     else
     (F_M_sum_body_b21 N K N (-1 : Int32) q1))
set_option maxRecDepth 20000 in
theorem T_M_sum_body {g : mj_G} (N : Nat) (K : mj_M → Option (mj_M)) (dk : Nat) (hdk : 8 ≤ dk) (hK : ∀ e, dk ≤ e → ∀ (M : mj_M), mj_Mt g (mj_qV g) e y_M_sum c_M_sum 2 none [.ref 48] M (K M)) : ∀ d, dk + 3 ≤ d → ∀ (M : mj_M), mj_Mt g (mj_qV g) d y_M_sum c_M_sum 2 none [.ref 48] M (F_M_sum_body N K M) := by
  intro d hd M
  obtain ⟨e, rfl⟩ : ∃ e, d = e + 1 := ⟨d - 1, by omega⟩
  have he : dk + 2 ≤ e := by omega
  refine mj_met (by decide +kernel) (Nat.le_of_ble_eq_true rfl) ?_
  unfold F_M_sum_body
  refine mj_L (L' := [(0, .ref 48)]) [0] rfl ?_
  refine mj_aload_n (pc := 0) (i := 0) rfl dd_M_sum_0 ?_
  refine mj_callVV (pc := 1) (idx := 150) (b := 48) (As := []) (st := []) sh_48 cl_12 ev_M_term ql_M_150 rfl (Nat.le_of_ble_eq_true rfl) (T_M_term (g := g) N K dk hdk hK e (by omega) M) dd_M_sum_1 (fun q1 hq1 => ?_)
  refine mj_aload_n (pc := 4) (i := 0) rfl dd_M_sum_4 ?_
  refine mj_getI (pc := 5) (b := 48) (k := 4) qf_M_107 sh_48 cl_12 rfl (by decide) rfl dd_M_sum_5 ?_
  refine mj_iconst (pc := 8) (v := (-1 : Int32)) (by decide) dd_M_sum_8 ?_
  refine mj_icmp_ne (pc := 9) (tgt := 19) dd_M_sum_9 rfl (fun h2 => ?_) (fun h2 => ?_)
  · refine mj_aload_n (pc := 12) (i := 0) rfl dd_M_sum_12 ?_
    refine mj_callVI (pc := 13) (idx := 119) (b := 48) (As := []) (st := []) sh_48 cl_12 ev_M_look ql_M_119 rfl (Nat.le_of_ble_eq_true rfl) (T_M_look (g := g) N e (by omega) q1) dd_M_sum_13 (fun q3 hq3 => ?_)
    refine mj_goto (pc := 16) (tgt := 20) dd_M_sum_16 rfl ?_
    refine mj_istore_n (pc := 20) (by decide) dd_M_sum_20 ?_
    refine mj_L (L' := [(1, .int q3.1), (0, .ref 48)]) [0, 1] rfl ?_
    refine mj_L (L' := [(0, .ref 48), (1, .int q3.1)]) [1, 0] rfl ?_
    exact T_M_sum_body_b21 (g := g) N K dk hdk hK e he N q3.1 q3.2
  · refine mj_iconst (pc := 19) (v := (-1 : Int32)) (by decide) dd_M_sum_19 ?_
    refine mj_istore_n (pc := 20) (by decide) dd_M_sum_20 ?_
    refine mj_L (L' := [(1, .int (-1 : Int32)), (0, .ref 48)]) [0, 1] rfl ?_
    refine mj_L (L' := [(0, .ref 48), (1, .int (-1 : Int32))]) [1, 0] rfl ?_
    exact T_M_sum_body_b21 (g := g) N K dk hdk hK e he N (-1 : Int32) q1
def F_M_sum (N : Nat) : Nat → mj_M → Option (mj_M)
  | 0, _ => none
  | n + 1, M => F_M_sum_body N (F_M_sum N n)  M
theorem T_M_sum {g : mj_G} (N : Nat) : ∀ (n d : Nat), 8 + 4 * n ≤ d → ∀ (M : mj_M), mj_Mt g (mj_qV g) d y_M_sum c_M_sum 2 none [.ref 48] M (F_M_sum N n  M) := by
  intro n
  induction n with
  | zero => intro d _ M q hq; cases hq
  | succ n ih =>
    intro d hd M
    exact T_M_sum_body (g := g) N (F_M_sum N n) (8 + 4 * n) (by omega) (fun e he => ih e he) d (by omega)  M
def F_M_isSign (x0 : Int32) (M : mj_M) : Option (Int32 × mj_M) :=
    if x0 = (61 : Int32) then
     (some ((1 : Int32), M))
     else
     (if x0 = (60 : Int32) then
     (some ((1 : Int32), M))
     else
     (if x0 = (62 : Int32) then
     (some ((1 : Int32), M))
     else
     (some ((0 : Int32), M))))
set_option maxRecDepth 20000 in
theorem T_M_isSign {g : mj_G} : ∀ d, 1 ≤ d → ∀ (x0 : Int32) (M : mj_M), mj_Mt g (mj_qI g) d y_M_isSign c_M_isSign 1 (some .boolean) [.int x0] M (F_M_isSign x0 M) := by
  intro d hd x0 M
  obtain ⟨e, rfl⟩ : ∃ e, d = e + 1 := ⟨d - 1, by omega⟩
  have he : 0 ≤ e := by omega
  refine mj_met (by decide +kernel) (Nat.le_of_ble_eq_true rfl) ?_
  unfold F_M_isSign
  refine mj_L (L' := [(0, .int x0)]) [0] rfl ?_
  refine mj_iload_n (pc := 0) (i := 0) rfl dd_M_isSign_0 ?_
  refine mj_bipush (pc := 1) (v := (61 : Int32)) (by decide) dd_M_isSign_1 ?_
  refine mj_icmp_eq (pc := 3) (tgt := 18) dd_M_isSign_3 rfl (fun h1 => ?_) (fun h1 => ?_)
  · refine mj_iconst (pc := 18) (v := (1 : Int32)) (by decide) dd_M_isSign_18 ?_
    refine mj_goto (pc := 19) (tgt := 23) dd_M_isSign_19 rfl ?_
    exact mj_zret (by decide) dd_M_isSign_23 rfl rfl
  · refine mj_iload_n (pc := 6) (i := 0) rfl dd_M_isSign_6 ?_
    refine mj_bipush (pc := 7) (v := (60 : Int32)) (by decide) dd_M_isSign_7 ?_
    refine mj_icmp_eq (pc := 9) (tgt := 18) dd_M_isSign_9 rfl (fun h2 => ?_) (fun h2 => ?_)
    · refine mj_iconst (pc := 18) (v := (1 : Int32)) (by decide) dd_M_isSign_18 ?_
      refine mj_goto (pc := 19) (tgt := 23) dd_M_isSign_19 rfl ?_
      exact mj_zret (by decide) dd_M_isSign_23 rfl rfl
    · refine mj_iload_n (pc := 12) (i := 0) rfl dd_M_isSign_12 ?_
      refine mj_bipush (pc := 13) (v := (62 : Int32)) (by decide) dd_M_isSign_13 ?_
      refine mj_icmp_ne (pc := 15) (tgt := 22) dd_M_isSign_15 rfl (fun h3 => ?_) (fun h3 => ?_)
      · refine mj_iconst (pc := 18) (v := (1 : Int32)) (by decide) dd_M_isSign_18 ?_
        refine mj_goto (pc := 19) (tgt := 23) dd_M_isSign_19 rfl ?_
        exact mj_zret (by decide) dd_M_isSign_23 rfl rfl
      · refine mj_iconst (pc := 22) (v := (0 : Int32)) (by decide) dd_M_isSign_22 ?_
        exact mj_zret (by decide) dd_M_isSign_23 rfl rfl
def F_M_compare_b68 (N : Nat) (s1 : Int32) (M : mj_M) : Option (mj_M) :=
    (F_M_put s1 (0 : Int32) M).bind (fun q10 =>
     some q10)
set_option maxRecDepth 20000 in
theorem T_M_compare_b68 {g : mj_G} (N : Nat) (e : Nat) (he : 48 ≤ e) (s1 : Int32) (M : mj_M) : mj_X g (mj_qV g) "WinterTellersModel" c_M_compare 2 none e 68 [] [.int s1, .ref 48] M (F_M_compare_b68 N s1 M) := by
  unfold F_M_compare_b68
  refine mj_iconst (pc := 68) (v := (0 : Int32)) (by decide) dd_M_compare_68 ?_
  refine mj_callVV (pc := 69) (idx := 129) (b := 48) (As := [.int s1, .int (0 : Int32)]) (st := []) sh_48 cl_12 ev_M_put ql_M_129 rfl (Nat.le_of_ble_eq_true rfl) (T_M_put (g := g) e (by omega) s1 (0 : Int32) M) dd_M_compare_69 (fun q10 hq10 => ?_)
  exact mj_vret dd_M_compare_72 rfl rfl
def F_M_compare_b16 (N : Nat) (s0 : Int32) (M : mj_M) : Option (mj_M) :=
    (F_M_isSign s0 M).bind (fun q3 =>
     if q3.1 = (0) then
     ((F_M_bad q3.2).bind (fun q9 =>
     some q9))
     else
     (mj_lt (mj_u q3.2 48 3 ((q3.2 48 3) + (1 : Int32))) (fun M5 =>
     (F_M_sum N 10 M5).bind (fun q6 =>
     if s0 = (61 : Int32) then
     (F_M_compare_b68 N (6 : Int32) q6)
     else
     (if s0 = (60 : Int32) then
     (F_M_compare_b68 N (7 : Int32) q6)
     else
     (F_M_compare_b68 N (8 : Int32) q6))))))
set_option maxRecDepth 20000 in
theorem T_M_compare_b16 {g : mj_G} (N : Nat) (e : Nat) (he : 48 ≤ e) (s0 : Int32) (M : mj_M) : mj_X g (mj_qV g) "WinterTellersModel" c_M_compare 2 none e 16 [(0, .ref 48)] [.int s0] M (F_M_compare_b16 N s0 M) := by
  unfold F_M_compare_b16
  refine mj_istore_n (pc := 16) (by decide) dd_M_compare_16 ?_
  refine mj_L (L' := [(1, .int s0), (0, .ref 48)]) [0, 1] rfl ?_
  refine mj_iload_n (pc := 17) (i := 1) rfl dd_M_compare_17 ?_
  refine mj_callSI (pc := 18) (idx := 153) (As := [.int s0]) (st := []) es_M_isSign ql_M_153 rfl (Nat.le_of_ble_eq_true rfl) (T_M_isSign (g := g) e (by omega) s0 M) dd_M_compare_18 (fun q3 hq3 => ?_)
  refine mj_if_ne (pc := 21) (tgt := 29) dd_M_compare_21 rfl (fun h4 => ?_) (fun h4 => ?_)
  · refine mj_aload_n (pc := 24) (i := 0) rfl dd_M_compare_24 ?_
    refine mj_callVV (pc := 25) (idx := 116) (b := 48) (As := []) (st := []) sh_48 cl_12 ev_M_bad ql_M_116 rfl (Nat.le_of_ble_eq_true rfl) (T_M_bad (g := g) e (by omega) q3.2) dd_M_compare_25 (fun q9 hq9 => ?_)
    exact mj_vret dd_M_compare_28 rfl rfl
  · refine mj_aload_n (pc := 29) (i := 0) rfl dd_M_compare_29 ?_
    refine mj_dup (pc := 30) rfl dd_M_compare_30 ?_
    refine mj_getI (pc := 31) (b := 48) (k := 3) qf_M_100 sh_48 cl_12 rfl (by decide) rfl dd_M_compare_31 ?_
    refine mj_iconst (pc := 34) (v := (1 : Int32)) (by decide) dd_M_compare_34 ?_
    refine mj_iadd (pc := 35) dd_M_compare_35 ?_
    refine mj_putI (pc := 36) (b := 48) (k := 3) qf_M_100 sh_48 cl_12 rfl (by decide) (by decide) rfl rfl rfl dd_M_compare_36 (fun M5 _ => ?_)
    refine mj_aload_n (pc := 39) (i := 0) rfl dd_M_compare_39 ?_
    refine mj_callVV (pc := 40) (idx := 140) (b := 48) (As := []) (st := []) sh_48 cl_12 ev_M_sum ql_M_140 rfl (Nat.le_of_ble_eq_true rfl) (T_M_sum (g := g) N 10 e (by omega) M5) dd_M_compare_40 (fun q6 hq6 => ?_)
    refine mj_aload_n (pc := 43) (i := 0) rfl dd_M_compare_43 ?_
    refine mj_iload_n (pc := 44) (i := 1) rfl dd_M_compare_44 ?_
    refine mj_bipush (pc := 45) (v := (61 : Int32)) (by decide) dd_M_compare_45 ?_
    refine mj_icmp_ne (pc := 47) (tgt := 55) dd_M_compare_47 rfl (fun h7 => ?_) (fun h7 => ?_)
    · refine mj_bipush (pc := 50) (v := (6 : Int32)) (by decide) dd_M_compare_50 ?_
      refine mj_goto (pc := 52) (tgt := 68) dd_M_compare_52 rfl ?_
      refine mj_L (L' := []) [] rfl ?_
      exact T_M_compare_b68 (g := g) N e he (6 : Int32) q6
    · refine mj_iload_n (pc := 55) (i := 1) rfl dd_M_compare_55 ?_
      refine mj_bipush (pc := 56) (v := (60 : Int32)) (by decide) dd_M_compare_56 ?_
      refine mj_icmp_ne (pc := 58) (tgt := 66) dd_M_compare_58 rfl (fun h8 => ?_) (fun h8 => ?_)
      · refine mj_bipush (pc := 61) (v := (7 : Int32)) (by decide) dd_M_compare_61 ?_
        refine mj_goto (pc := 63) (tgt := 68) dd_M_compare_63 rfl ?_
        refine mj_L (L' := []) [] rfl ?_
        exact T_M_compare_b68 (g := g) N e he (7 : Int32) q6
      · refine mj_bipush (pc := 66) (v := (8 : Int32)) (by decide) dd_M_compare_66 ?_
        refine mj_L (L' := []) [] rfl ?_
        exact T_M_compare_b68 (g := g) N e he (8 : Int32) q6
def F_M_compare (N : Nat) (M : mj_M) : Option (mj_M) :=
    if (M 48 4) = (-1 : Int32) then
     ((F_M_look N M).bind (fun q2 =>
     F_M_compare_b16 N q2.1 q2.2))
     else
     (F_M_compare_b16 N (-1 : Int32) M)
set_option maxRecDepth 20000 in
theorem T_M_compare {g : mj_G} (N : Nat) : ∀ d, 49 ≤ d → ∀ (M : mj_M), mj_Mt g (mj_qV g) d y_M_compare c_M_compare 2 none [.ref 48] M (F_M_compare N M) := by
  intro d hd M
  obtain ⟨e, rfl⟩ : ∃ e, d = e + 1 := ⟨d - 1, by omega⟩
  have he : 48 ≤ e := by omega
  refine mj_met (by decide +kernel) (Nat.le_of_ble_eq_true rfl) ?_
  unfold F_M_compare
  refine mj_L (L' := [(0, .ref 48)]) [0] rfl ?_
  refine mj_aload_n (pc := 0) (i := 0) rfl dd_M_compare_0 ?_
  refine mj_getI (pc := 1) (b := 48) (k := 4) qf_M_107 sh_48 cl_12 rfl (by decide) rfl dd_M_compare_1 ?_
  refine mj_iconst (pc := 4) (v := (-1 : Int32)) (by decide) dd_M_compare_4 ?_
  refine mj_icmp_ne (pc := 5) (tgt := 15) dd_M_compare_5 rfl (fun h1 => ?_) (fun h1 => ?_)
  · refine mj_aload_n (pc := 8) (i := 0) rfl dd_M_compare_8 ?_
    refine mj_callVI (pc := 9) (idx := 119) (b := 48) (As := []) (st := []) sh_48 cl_12 ev_M_look ql_M_119 rfl (Nat.le_of_ble_eq_true rfl) (T_M_look (g := g) N e (by omega) M) dd_M_compare_9 (fun q2 hq2 => ?_)
    refine mj_goto (pc := 12) (tgt := 16) dd_M_compare_12 rfl ?_
    refine mj_L (L' := [(0, .ref 48)]) [0] rfl ?_
    exact T_M_compare_b16 (g := g) N e he q2.1 q2.2
  · refine mj_iconst (pc := 15) (v := (-1 : Int32)) (by decide) dd_M_compare_15 ?_
    refine mj_L (L' := [(0, .ref 48)]) [0] rfl ?_
    exact T_M_compare_b16 (g := g) N e he (-1 : Int32) M
def F_M_goOnAnd_b0 (N : Nat) (K : mj_M → Option (mj_M)) : Nat → mj_M → Option (mj_M)
  | 0, _ => none
  | n + 1, M =>
    if (M 48 4) = (-1 : Int32) then
     ((F_M_look N M).bind (fun q2 =>
     if q2.1 = (38 : Int32) then
     (mj_lt (mj_u q2.2 48 3 ((q2.2 48 3) + (1 : Int32))) (fun M4 =>
     (K M4).bind (fun q5 =>
     (F_M_put (10 : Int32) (0 : Int32) q5).bind (fun q6 =>
     F_M_goOnAnd_b0 N K n q6))))
     else
     (some q2.2)))
     else
     (some M)
set_option maxRecDepth 20000 in
theorem T_M_goOnAnd_b0 {g : mj_G} (N : Nat) (K : mj_M → Option (mj_M)) (dk : Nat) (hdk : 55 ≤ dk) (hK : ∀ e, dk ≤ e → ∀ (M : mj_M), mj_Mt g (mj_qV g) e y_M_unit c_M_unit 2 none [.ref 48] M (K M)) (e : Nat) (he : dk + 0 ≤ e) : ∀ (n : Nat) (M : mj_M), mj_X g (mj_qV g) "WinterTellersModel" c_M_goOnAnd 1 none e 0 [(0, .ref 48)] [] M (F_M_goOnAnd_b0 N K n M) := by
  intro n
  induction n with
  | zero => intro M; exact mj_none
  | succ n ih =>
    intro M
    rw [F_M_goOnAnd_b0]
    refine mj_aload_n (pc := 0) (i := 0) rfl dd_M_goOnAnd_0 ?_
    refine mj_getI (pc := 1) (b := 48) (k := 4) qf_M_107 sh_48 cl_12 rfl (by decide) rfl dd_M_goOnAnd_1 ?_
    refine mj_iconst (pc := 4) (v := (-1 : Int32)) (by decide) dd_M_goOnAnd_4 ?_
    refine mj_icmp_ne (pc := 5) (tgt := 41) dd_M_goOnAnd_5 rfl (fun h1 => ?_) (fun h1 => ?_)
    · refine mj_aload_n (pc := 8) (i := 0) rfl dd_M_goOnAnd_8 ?_
      refine mj_callVI (pc := 9) (idx := 119) (b := 48) (As := []) (st := []) sh_48 cl_12 ev_M_look ql_M_119 rfl (Nat.le_of_ble_eq_true rfl) (T_M_look (g := g) N e (by omega) M) dd_M_goOnAnd_9 (fun q2 hq2 => ?_)
      refine mj_bipush (pc := 12) (v := (38 : Int32)) (by decide) dd_M_goOnAnd_12 ?_
      refine mj_icmp_ne (pc := 14) (tgt := 41) dd_M_goOnAnd_14 rfl (fun h3 => ?_) (fun h3 => ?_)
      · refine mj_aload_n (pc := 17) (i := 0) rfl dd_M_goOnAnd_17 ?_
        refine mj_dup (pc := 18) rfl dd_M_goOnAnd_18 ?_
        refine mj_getI (pc := 19) (b := 48) (k := 3) qf_M_100 sh_48 cl_12 rfl (by decide) rfl dd_M_goOnAnd_19 ?_
        refine mj_iconst (pc := 22) (v := (1 : Int32)) (by decide) dd_M_goOnAnd_22 ?_
        refine mj_iadd (pc := 23) dd_M_goOnAnd_23 ?_
        refine mj_putI (pc := 24) (b := 48) (k := 3) qf_M_100 sh_48 cl_12 rfl (by decide) (by decide) rfl rfl rfl dd_M_goOnAnd_24 (fun M4 _ => ?_)
        refine mj_aload_n (pc := 27) (i := 0) rfl dd_M_goOnAnd_27 ?_
        refine mj_callVV (pc := 28) (idx := 156) (b := 48) (As := []) (st := []) sh_48 cl_12 ev_M_unit ql_M_156 rfl (Nat.le_of_ble_eq_true rfl) (hK e (by omega) M4) dd_M_goOnAnd_28 (fun q5 hq5 => ?_)
        refine mj_aload_n (pc := 31) (i := 0) rfl dd_M_goOnAnd_31 ?_
        refine mj_bipush (pc := 32) (v := (10 : Int32)) (by decide) dd_M_goOnAnd_32 ?_
        refine mj_iconst (pc := 34) (v := (0 : Int32)) (by decide) dd_M_goOnAnd_34 ?_
        refine mj_callVV (pc := 35) (idx := 129) (b := 48) (As := [.int (10 : Int32), .int (0 : Int32)]) (st := []) sh_48 cl_12 ev_M_put ql_M_129 rfl (Nat.le_of_ble_eq_true rfl) (T_M_put (g := g) e (by omega) (10 : Int32) (0 : Int32) q5) dd_M_goOnAnd_35 (fun q6 hq6 => ?_)
        refine mj_goto (pc := 38) (tgt := 0) dd_M_goOnAnd_38 rfl ?_
        refine mj_L (L' := [(0, .ref 48)]) [0] rfl ?_
        exact ih q6
      · exact mj_vret dd_M_goOnAnd_41 rfl rfl
    · exact mj_vret dd_M_goOnAnd_41 rfl rfl
def F_M_goOnAnd (N : Nat) (K : mj_M → Option (mj_M)) (M : mj_M) : Option (mj_M) :=
    F_M_goOnAnd_b0 N K N M
set_option maxRecDepth 20000 in
theorem T_M_goOnAnd {g : mj_G} (N : Nat) (K : mj_M → Option (mj_M)) (dk : Nat) (hdk : 55 ≤ dk) (hK : ∀ e, dk ≤ e → ∀ (M : mj_M), mj_Mt g (mj_qV g) e y_M_unit c_M_unit 2 none [.ref 48] M (K M)) : ∀ d, dk + 1 ≤ d → ∀ (M : mj_M), mj_Mt g (mj_qV g) d y_M_goOnAnd c_M_goOnAnd 1 none [.ref 48] M (F_M_goOnAnd N K M) := by
  intro d hd M
  obtain ⟨e, rfl⟩ : ∃ e, d = e + 1 := ⟨d - 1, by omega⟩
  have he : dk + 0 ≤ e := by omega
  refine mj_met (by decide +kernel) (Nat.le_of_ble_eq_true rfl) ?_
  unfold F_M_goOnAnd
  refine mj_L (L' := [(0, .ref 48)]) [0] rfl ?_
  refine mj_L (L' := [(0, .ref 48)]) [0] rfl ?_
  exact T_M_goOnAnd_b0 (g := g) N K dk hdk hK e he N M
def F_M_goOnOr_b0 (N : Nat) (K : mj_M → Option (mj_M)) : Nat → mj_M → Option (mj_M)
  | 0, _ => none
  | n + 1, M =>
    if (M 48 4) = (-1 : Int32) then
     ((F_M_look N M).bind (fun q2 =>
     if q2.1 = (124 : Int32) then
     (mj_lt (mj_u q2.2 48 3 ((q2.2 48 3) + (1 : Int32))) (fun M4 =>
     (K M4).bind (fun q5 =>
     (F_M_goOnAnd N K q5).bind (fun q6 =>
     (F_M_put (11 : Int32) (0 : Int32) q6).bind (fun q7 =>
     F_M_goOnOr_b0 N K n q7)))))
     else
     (some q2.2)))
     else
     (some M)
set_option maxRecDepth 20000 in
theorem T_M_goOnOr_b0 {g : mj_G} (N : Nat) (K : mj_M → Option (mj_M)) (dk : Nat) (hdk : 55 ≤ dk) (hK : ∀ e, dk ≤ e → ∀ (M : mj_M), mj_Mt g (mj_qV g) e y_M_unit c_M_unit 2 none [.ref 48] M (K M)) (e : Nat) (he : dk + 1 ≤ e) : ∀ (n : Nat) (M : mj_M), mj_X g (mj_qV g) "WinterTellersModel" c_M_goOnOr 1 none e 0 [(0, .ref 48)] [] M (F_M_goOnOr_b0 N K n M) := by
  intro n
  induction n with
  | zero => intro M; exact mj_none
  | succ n ih =>
    intro M
    rw [F_M_goOnOr_b0]
    refine mj_aload_n (pc := 0) (i := 0) rfl dd_M_goOnOr_0 ?_
    refine mj_getI (pc := 1) (b := 48) (k := 4) qf_M_107 sh_48 cl_12 rfl (by decide) rfl dd_M_goOnOr_1 ?_
    refine mj_iconst (pc := 4) (v := (-1 : Int32)) (by decide) dd_M_goOnOr_4 ?_
    refine mj_icmp_ne (pc := 5) (tgt := 45) dd_M_goOnOr_5 rfl (fun h1 => ?_) (fun h1 => ?_)
    · refine mj_aload_n (pc := 8) (i := 0) rfl dd_M_goOnOr_8 ?_
      refine mj_callVI (pc := 9) (idx := 119) (b := 48) (As := []) (st := []) sh_48 cl_12 ev_M_look ql_M_119 rfl (Nat.le_of_ble_eq_true rfl) (T_M_look (g := g) N e (by omega) M) dd_M_goOnOr_9 (fun q2 hq2 => ?_)
      refine mj_bipush (pc := 12) (v := (124 : Int32)) (by decide) dd_M_goOnOr_12 ?_
      refine mj_icmp_ne (pc := 14) (tgt := 45) dd_M_goOnOr_14 rfl (fun h3 => ?_) (fun h3 => ?_)
      · refine mj_aload_n (pc := 17) (i := 0) rfl dd_M_goOnOr_17 ?_
        refine mj_dup (pc := 18) rfl dd_M_goOnOr_18 ?_
        refine mj_getI (pc := 19) (b := 48) (k := 3) qf_M_100 sh_48 cl_12 rfl (by decide) rfl dd_M_goOnOr_19 ?_
        refine mj_iconst (pc := 22) (v := (1 : Int32)) (by decide) dd_M_goOnOr_22 ?_
        refine mj_iadd (pc := 23) dd_M_goOnOr_23 ?_
        refine mj_putI (pc := 24) (b := 48) (k := 3) qf_M_100 sh_48 cl_12 rfl (by decide) (by decide) rfl rfl rfl dd_M_goOnOr_24 (fun M4 _ => ?_)
        refine mj_aload_n (pc := 27) (i := 0) rfl dd_M_goOnOr_27 ?_
        refine mj_callVV (pc := 28) (idx := 156) (b := 48) (As := []) (st := []) sh_48 cl_12 ev_M_unit ql_M_156 rfl (Nat.le_of_ble_eq_true rfl) (hK e (by omega) M4) dd_M_goOnOr_28 (fun q5 hq5 => ?_)
        refine mj_aload_n (pc := 31) (i := 0) rfl dd_M_goOnOr_31 ?_
        refine mj_callVV (pc := 32) (idx := 165) (b := 48) (As := []) (st := []) sh_48 cl_12 ev_M_goOnAnd ql_M_165 rfl (Nat.le_of_ble_eq_true rfl) (T_M_goOnAnd (g := g) N K dk hdk hK e (by omega) q5) dd_M_goOnOr_32 (fun q6 hq6 => ?_)
        refine mj_aload_n (pc := 35) (i := 0) rfl dd_M_goOnOr_35 ?_
        refine mj_bipush (pc := 36) (v := (11 : Int32)) (by decide) dd_M_goOnOr_36 ?_
        refine mj_iconst (pc := 38) (v := (0 : Int32)) (by decide) dd_M_goOnOr_38 ?_
        refine mj_callVV (pc := 39) (idx := 129) (b := 48) (As := [.int (11 : Int32), .int (0 : Int32)]) (st := []) sh_48 cl_12 ev_M_put ql_M_129 rfl (Nat.le_of_ble_eq_true rfl) (T_M_put (g := g) e (by omega) (11 : Int32) (0 : Int32) q6) dd_M_goOnOr_39 (fun q7 hq7 => ?_)
        refine mj_goto (pc := 42) (tgt := 0) dd_M_goOnOr_42 rfl ?_
        refine mj_L (L' := [(0, .ref 48)]) [0] rfl ?_
        exact ih q7
      · exact mj_vret dd_M_goOnOr_45 rfl rfl
    · exact mj_vret dd_M_goOnOr_45 rfl rfl
def F_M_goOnOr (N : Nat) (K : mj_M → Option (mj_M)) (M : mj_M) : Option (mj_M) :=
    F_M_goOnOr_b0 N K N M
set_option maxRecDepth 20000 in
theorem T_M_goOnOr {g : mj_G} (N : Nat) (K : mj_M → Option (mj_M)) (dk : Nat) (hdk : 55 ≤ dk) (hK : ∀ e, dk ≤ e → ∀ (M : mj_M), mj_Mt g (mj_qV g) e y_M_unit c_M_unit 2 none [.ref 48] M (K M)) : ∀ d, dk + 2 ≤ d → ∀ (M : mj_M), mj_Mt g (mj_qV g) d y_M_goOnOr c_M_goOnOr 1 none [.ref 48] M (F_M_goOnOr N K M) := by
  intro d hd M
  obtain ⟨e, rfl⟩ : ∃ e, d = e + 1 := ⟨d - 1, by omega⟩
  have he : dk + 1 ≤ e := by omega
  refine mj_met (by decide +kernel) (Nat.le_of_ble_eq_true rfl) ?_
  unfold F_M_goOnOr
  refine mj_L (L' := [(0, .ref 48)]) [0] rfl ?_
  refine mj_L (L' := [(0, .ref 48)]) [0] rfl ?_
  exact T_M_goOnOr_b0 (g := g) N K dk hdk hK e he N M
def F_M_condition (N : Nat) (K : mj_M → Option (mj_M)) (M : mj_M) : Option (mj_M) :=
    (K M).bind (fun q1 =>
     (F_M_goOnAnd N K q1).bind (fun q2 =>
     (F_M_goOnOr N K q2).bind (fun q3 =>
     some q3)))
set_option maxRecDepth 20000 in
theorem T_M_condition {g : mj_G} (N : Nat) (K : mj_M → Option (mj_M)) (dk : Nat) (hdk : 55 ≤ dk) (hK : ∀ e, dk ≤ e → ∀ (M : mj_M), mj_Mt g (mj_qV g) e y_M_unit c_M_unit 2 none [.ref 48] M (K M)) : ∀ d, dk + 3 ≤ d → ∀ (M : mj_M), mj_Mt g (mj_qV g) d y_M_condition c_M_condition 1 none [.ref 48] M (F_M_condition N K M) := by
  intro d hd M
  obtain ⟨e, rfl⟩ : ∃ e, d = e + 1 := ⟨d - 1, by omega⟩
  have he : dk + 2 ≤ e := by omega
  refine mj_met (by decide +kernel) (Nat.le_of_ble_eq_true rfl) ?_
  unfold F_M_condition
  refine mj_L (L' := [(0, .ref 48)]) [0] rfl ?_
  refine mj_aload_n (pc := 0) (i := 0) rfl dd_M_condition_0 ?_
  refine mj_callVV (pc := 1) (idx := 156) (b := 48) (As := []) (st := []) sh_48 cl_12 ev_M_unit ql_M_156 rfl (Nat.le_of_ble_eq_true rfl) (hK e (by omega) M) dd_M_condition_1 (fun q1 hq1 => ?_)
  refine mj_aload_n (pc := 4) (i := 0) rfl dd_M_condition_4 ?_
  refine mj_callVV (pc := 5) (idx := 165) (b := 48) (As := []) (st := []) sh_48 cl_12 ev_M_goOnAnd ql_M_165 rfl (Nat.le_of_ble_eq_true rfl) (T_M_goOnAnd (g := g) N K dk hdk hK e (by omega) q1) dd_M_condition_5 (fun q2 hq2 => ?_)
  refine mj_aload_n (pc := 8) (i := 0) rfl dd_M_condition_8 ?_
  refine mj_callVV (pc := 9) (idx := 168) (b := 48) (As := []) (st := []) sh_48 cl_12 ev_M_goOnOr ql_M_168 rfl (Nat.le_of_ble_eq_true rfl) (T_M_goOnOr (g := g) N K dk hdk hK e (by omega) q2) dd_M_condition_9 (fun q3 hq3 => ?_)
  exact mj_vret dd_M_condition_12 rfl rfl
def F_M_unit_body (N : Nat) (K : mj_M → Option (mj_M)) (M : mj_M) : Option (mj_M) :=
    (F_M_look N M).bind (fun q1 =>
     if q1.1 = (33 : Int32) then
     ((F_M_opens q1.2).bind (fun q11 =>
     if (q11 48 4) = (-1 : Int32) then
     ((K q11).bind (fun q13 =>
     (F_M_put (9 : Int32) (0 : Int32) q13).bind (fun q14 =>
     mj_lt (mj_u q14 48 5 ((q14 48 5) - (1 : Int32))) (fun M15 =>
     some M15))))
     else
     (some q11)))
     else
     (if q1.1 = (40 : Int32) then
     ((F_M_opens q1.2).bind (fun q7 =>
     if (q7 48 4) = (-1 : Int32) then
     ((F_M_condition N K q7).bind (fun q9 =>
     (F_M_closes N (41 : Int32) q9).bind (fun q10 =>
     some q10)))
     else
     (some q7)))
     else
     ((F_M_sum N 10 q1.2).bind (fun q4 =>
     if (q4 48 4) = (-1 : Int32) then
     ((F_M_compare N q4).bind (fun q6 =>
     some q6))
     else
     (some q4)))))
set_option maxRecDepth 20000 in
theorem T_M_unit_body {g : mj_G} (N : Nat) (K : mj_M → Option (mj_M)) (dk : Nat) (hdk : 55 ≤ dk) (hK : ∀ e, dk ≤ e → ∀ (M : mj_M), mj_Mt g (mj_qV g) e y_M_unit c_M_unit 2 none [.ref 48] M (K M)) : ∀ d, dk + 4 ≤ d → ∀ (M : mj_M), mj_Mt g (mj_qV g) d y_M_unit c_M_unit 2 none [.ref 48] M (F_M_unit_body N K M) := by
  intro d hd M
  obtain ⟨e, rfl⟩ : ∃ e, d = e + 1 := ⟨d - 1, by omega⟩
  have he : dk + 3 ≤ e := by omega
  refine mj_met (by decide +kernel) (Nat.le_of_ble_eq_true rfl) ?_
  unfold F_M_unit_body
  refine mj_L (L' := [(0, .ref 48)]) [0] rfl ?_
  refine mj_aload_n (pc := 0) (i := 0) rfl dd_M_unit_0 ?_
  refine mj_callVI (pc := 1) (idx := 119) (b := 48) (As := []) (st := []) sh_48 cl_12 ev_M_look ql_M_119 rfl (Nat.le_of_ble_eq_true rfl) (T_M_look (g := g) N e (by omega) M) dd_M_unit_1 (fun q1 hq1 => ?_)
  refine mj_istore_n (pc := 4) (by decide) dd_M_unit_4 ?_
  refine mj_L (L' := [(1, .int q1.1), (0, .ref 48)]) [0, 1] rfl ?_
  refine mj_iload_n (pc := 5) (i := 1) rfl dd_M_unit_5 ?_
  refine mj_bipush (pc := 6) (v := (33 : Int32)) (by decide) dd_M_unit_6 ?_
  refine mj_icmp_ne (pc := 8) (tgt := 47) dd_M_unit_8 rfl (fun h2 => ?_) (fun h2 => ?_)
  · refine mj_aload_n (pc := 11) (i := 0) rfl dd_M_unit_11 ?_
    refine mj_callVV (pc := 12) (idx := 137) (b := 48) (As := []) (st := []) sh_48 cl_12 ev_M_opens ql_M_137 rfl (Nat.le_of_ble_eq_true rfl) (T_M_opens (g := g) e (by omega) q1.2) dd_M_unit_12 (fun q11 hq11 => ?_)
    refine mj_aload_n (pc := 15) (i := 0) rfl dd_M_unit_15 ?_
    refine mj_getI (pc := 16) (b := 48) (k := 4) qf_M_107 sh_48 cl_12 rfl (by decide) rfl dd_M_unit_16 ?_
    refine mj_iconst (pc := 19) (v := (-1 : Int32)) (by decide) dd_M_unit_19 ?_
    refine mj_icmp_ne (pc := 20) (tgt := 94) dd_M_unit_20 rfl (fun h12 => ?_) (fun h12 => ?_)
    · refine mj_aload_n (pc := 23) (i := 0) rfl dd_M_unit_23 ?_
      refine mj_callVV (pc := 24) (idx := 156) (b := 48) (As := []) (st := []) sh_48 cl_12 ev_M_unit ql_M_156 rfl (Nat.le_of_ble_eq_true rfl) (hK e (by omega) q11) dd_M_unit_24 (fun q13 hq13 => ?_)
      refine mj_aload_n (pc := 27) (i := 0) rfl dd_M_unit_27 ?_
      refine mj_bipush (pc := 28) (v := (9 : Int32)) (by decide) dd_M_unit_28 ?_
      refine mj_iconst (pc := 30) (v := (0 : Int32)) (by decide) dd_M_unit_30 ?_
      refine mj_callVV (pc := 31) (idx := 129) (b := 48) (As := [.int (9 : Int32), .int (0 : Int32)]) (st := []) sh_48 cl_12 ev_M_put ql_M_129 rfl (Nat.le_of_ble_eq_true rfl) (T_M_put (g := g) e (by omega) (9 : Int32) (0 : Int32) q13) dd_M_unit_31 (fun q14 hq14 => ?_)
      refine mj_aload_n (pc := 34) (i := 0) rfl dd_M_unit_34 ?_
      refine mj_dup (pc := 35) rfl dd_M_unit_35 ?_
      refine mj_getI (pc := 36) (b := 48) (k := 5) qf_M_113 sh_48 cl_12 rfl (by decide) rfl dd_M_unit_36 ?_
      refine mj_iconst (pc := 39) (v := (1 : Int32)) (by decide) dd_M_unit_39 ?_
      refine mj_isub (pc := 40) dd_M_unit_40 ?_
      refine mj_putI (pc := 41) (b := 48) (k := 5) qf_M_113 sh_48 cl_12 rfl (by decide) (by decide) rfl rfl rfl dd_M_unit_41 (fun M15 _ => ?_)
      refine mj_goto (pc := 44) (tgt := 94) dd_M_unit_44 rfl ?_
      exact mj_vret dd_M_unit_94 rfl rfl
    · exact mj_vret dd_M_unit_94 rfl rfl
  · refine mj_iload_n (pc := 47) (i := 1) rfl dd_M_unit_47 ?_
    refine mj_bipush (pc := 48) (v := (40 : Int32)) (by decide) dd_M_unit_48 ?_
    refine mj_icmp_ne (pc := 50) (tgt := 78) dd_M_unit_50 rfl (fun h3 => ?_) (fun h3 => ?_)
    · refine mj_aload_n (pc := 53) (i := 0) rfl dd_M_unit_53 ?_
      refine mj_callVV (pc := 54) (idx := 137) (b := 48) (As := []) (st := []) sh_48 cl_12 ev_M_opens ql_M_137 rfl (Nat.le_of_ble_eq_true rfl) (T_M_opens (g := g) e (by omega) q1.2) dd_M_unit_54 (fun q7 hq7 => ?_)
      refine mj_aload_n (pc := 57) (i := 0) rfl dd_M_unit_57 ?_
      refine mj_getI (pc := 58) (b := 48) (k := 4) qf_M_107 sh_48 cl_12 rfl (by decide) rfl dd_M_unit_58 ?_
      refine mj_iconst (pc := 61) (v := (-1 : Int32)) (by decide) dd_M_unit_61 ?_
      refine mj_icmp_ne (pc := 62) (tgt := 94) dd_M_unit_62 rfl (fun h8 => ?_) (fun h8 => ?_)
      · refine mj_aload_n (pc := 65) (i := 0) rfl dd_M_unit_65 ?_
        refine mj_callVV (pc := 66) (idx := 159) (b := 48) (As := []) (st := []) sh_48 cl_12 ev_M_condition ql_M_159 rfl (Nat.le_of_ble_eq_true rfl) (T_M_condition (g := g) N K dk hdk hK e (by omega) q7) dd_M_unit_66 (fun q9 hq9 => ?_)
        refine mj_aload_n (pc := 69) (i := 0) rfl dd_M_unit_69 ?_
        refine mj_bipush (pc := 70) (v := (41 : Int32)) (by decide) dd_M_unit_70 ?_
        refine mj_callVV (pc := 72) (idx := 143) (b := 48) (As := [.int (41 : Int32)]) (st := []) sh_48 cl_12 ev_M_closes ql_M_143 rfl (Nat.le_of_ble_eq_true rfl) (T_M_closes (g := g) N e (by omega) (41 : Int32) q9) dd_M_unit_72 (fun q10 hq10 => ?_)
        refine mj_goto (pc := 75) (tgt := 94) dd_M_unit_75 rfl ?_
        exact mj_vret dd_M_unit_94 rfl rfl
      · exact mj_vret dd_M_unit_94 rfl rfl
    · refine mj_aload_n (pc := 78) (i := 0) rfl dd_M_unit_78 ?_
      refine mj_callVV (pc := 79) (idx := 140) (b := 48) (As := []) (st := []) sh_48 cl_12 ev_M_sum ql_M_140 rfl (Nat.le_of_ble_eq_true rfl) (T_M_sum (g := g) N 10 e (by omega) q1.2) dd_M_unit_79 (fun q4 hq4 => ?_)
      refine mj_aload_n (pc := 82) (i := 0) rfl dd_M_unit_82 ?_
      refine mj_getI (pc := 83) (b := 48) (k := 4) qf_M_107 sh_48 cl_12 rfl (by decide) rfl dd_M_unit_83 ?_
      refine mj_iconst (pc := 86) (v := (-1 : Int32)) (by decide) dd_M_unit_86 ?_
      refine mj_icmp_ne (pc := 87) (tgt := 94) dd_M_unit_87 rfl (fun h5 => ?_) (fun h5 => ?_)
      · refine mj_aload_n (pc := 90) (i := 0) rfl dd_M_unit_90 ?_
        refine mj_callVV (pc := 91) (idx := 162) (b := 48) (As := []) (st := []) sh_48 cl_12 ev_M_compare ql_M_162 rfl (Nat.le_of_ble_eq_true rfl) (T_M_compare (g := g) N e (by omega) q4) dd_M_unit_91 (fun q6 hq6 => ?_)
        exact mj_vret dd_M_unit_94 rfl rfl
      · exact mj_vret dd_M_unit_94 rfl rfl
def F_M_unit (N : Nat) : Nat → mj_M → Option (mj_M)
  | 0, _ => none
  | n + 1, M => F_M_unit_body N (F_M_unit N n)  M
theorem T_M_unit {g : mj_G} (N : Nat) : ∀ (n d : Nat), 55 + 5 * n ≤ d → ∀ (M : mj_M), mj_Mt g (mj_qV g) d y_M_unit c_M_unit 2 none [.ref 48] M (F_M_unit N n  M) := by
  intro n
  induction n with
  | zero => intro d _ M q hq; cases hq
  | succ n ih =>
    intro d hd M
    exact T_M_unit_body (g := g) N (F_M_unit N n) (55 + 5 * n) (by omega) (fun e he => ih e he) d (by omega)  M
def F_M_clause_b251 (N : Nat) (x1 : Int32) (M : mj_M) : Option (mj_M) :=
    mj_ck (M 48 14) 5 (
     mj_ck x1 700 (mj_lt (mj_u M 56 x1.toNatClampNeg (M 52 (M 48 14).toNatClampNeg)) (fun M38 =>
     mj_ck (M38 48 14) 5 (
     mj_ck (M38 48 14) 5 (mj_lt (mj_u M38 53 (M38 48 14).toNatClampNeg ((M38 53 (M38 48 14).toNatClampNeg) + (1 : Int32))) (fun M39 =>
     some M39))))))
set_option maxRecDepth 20000 in
theorem T_M_clause_b251 {g : mj_G} (N : Nat) (e : Nat) (he : 108 ≤ e) (x1 : Int32) (M : mj_M) : mj_X g (mj_qV g) "WinterTellersModel" c_M_clause 3 none e 251 [(0, .ref 48), (1, .int x1)] [] M (F_M_clause_b251 N x1 M) := by
  unfold F_M_clause_b251
  refine mj_aload_n (pc := 251) (i := 0) rfl dd_M_clause_251 ?_
  refine mj_getR (pc := 252) (b := 48) (k := 12) qf_M_31 sh_48 cl_12 rfl (by decide) (r := 56) rfl dd_M_clause_252 ?_
  refine mj_iload_n (pc := 255) (i := 1) rfl dd_M_clause_255 ?_
  refine mj_aload_n (pc := 256) (i := 0) rfl dd_M_clause_256 ?_
  refine mj_getR (pc := 257) (b := 48) (k := 8) qf_M_19 sh_48 cl_12 rfl (by decide) (r := 52) rfl dd_M_clause_257 ?_
  refine mj_aload_n (pc := 260) (i := 0) rfl dd_M_clause_260 ?_
  refine mj_getI (pc := 261) (b := 48) (k := 14) qf_M_110 sh_48 cl_12 rfl (by decide) rfl dd_M_clause_261 ?_
  refine mj_iald (pc := 264) sh_52 dd_M_clause_264 ?_
  refine mj_iast (pc := 265) sh_56 dd_M_clause_265 (fun M38 _ => ?_)
  refine mj_aload_n (pc := 266) (i := 0) rfl dd_M_clause_266 ?_
  refine mj_getR (pc := 267) (b := 48) (k := 9) qf_M_22 sh_48 cl_12 rfl (by decide) (r := 53) rfl dd_M_clause_267 ?_
  refine mj_aload_n (pc := 270) (i := 0) rfl dd_M_clause_270 ?_
  refine mj_getI (pc := 271) (b := 48) (k := 14) qf_M_110 sh_48 cl_12 rfl (by decide) rfl dd_M_clause_271 ?_
  refine mj_dup2 (pc := 274) rfl rfl dd_M_clause_274 ?_
  refine mj_iald (pc := 275) sh_53 dd_M_clause_275 ?_
  refine mj_iconst (pc := 276) (v := (1 : Int32)) (by decide) dd_M_clause_276 ?_
  refine mj_iadd (pc := 277) dd_M_clause_277 ?_
  refine mj_iast (pc := 278) sh_53 dd_M_clause_278 (fun M39 _ => ?_)
  exact mj_vret dd_M_clause_279 rfl rfl
def F_M_clause_b184 (N : Nat) (x1 : Int32) (x2 : Int32) (M : mj_M) : Option (mj_M) :=
    mj_ck x1 700 (
     mj_ck x1 700 (mj_lt (mj_u M 55 x1.toNatClampNeg (M 54 x1.toNatClampNeg)) (fun M29 =>
     if x2 = (0) then
     (F_M_clause_b251 N x1 M29)
     else
     (if (M29 48 4) = (-1 : Int32) then
     ((F_M_look N M29).bind (fun q32 =>
     if q32.1 = (63 : Int32) then
     (mj_lt (mj_u q32.2 48 3 ((q32.2 48 3) + (1 : Int32))) (fun M34 =>
     mj_ck (M34 48 14) 5 (
     mj_ck x1 700 (mj_lt (mj_u M34 55 x1.toNatClampNeg (M34 52 (M34 48 14).toNatClampNeg)) (fun M35 =>
     (F_M_sum N 10 M35).bind (fun q36 =>
     F_M_clause_b251 N x1 q36))))))
     else
     ((F_M_bad q32.2).bind (fun q37 =>
     some q37))))
     else
     (F_M_clause_b251 N x1 M29)))))
set_option maxRecDepth 20000 in
theorem T_M_clause_b184 {g : mj_G} (N : Nat) (e : Nat) (he : 108 ≤ e) (x1 : Int32) (x2 : Int32) (M : mj_M) : mj_X g (mj_qV g) "WinterTellersModel" c_M_clause 3 none e 184 [(0, .ref 48), (1, .int x1), (2, .int x2)] [] M (F_M_clause_b184 N x1 x2 M) := by
  unfold F_M_clause_b184
  refine mj_aload_n (pc := 184) (i := 0) rfl dd_M_clause_184 ?_
  refine mj_getR (pc := 185) (b := 48) (k := 11) qf_M_28 sh_48 cl_12 rfl (by decide) (r := 55) rfl dd_M_clause_185 ?_
  refine mj_iload_n (pc := 188) (i := 1) rfl dd_M_clause_188 ?_
  refine mj_aload_n (pc := 189) (i := 0) rfl dd_M_clause_189 ?_
  refine mj_getR (pc := 190) (b := 48) (k := 10) qf_M_25 sh_48 cl_12 rfl (by decide) (r := 54) rfl dd_M_clause_190 ?_
  refine mj_iload_n (pc := 193) (i := 1) rfl dd_M_clause_193 ?_
  refine mj_iald (pc := 194) sh_54 dd_M_clause_194 ?_
  refine mj_iast (pc := 195) sh_55 dd_M_clause_195 (fun M29 _ => ?_)
  refine mj_iload_n (pc := 196) (i := 2) rfl dd_M_clause_196 ?_
  refine mj_if_eq (pc := 197) (tgt := 251) dd_M_clause_197 rfl (fun h30 => ?_) (fun h30 => ?_)
  · refine mj_L (L' := [(0, .ref 48), (1, .int x1)]) [0, 1] rfl ?_
    exact T_M_clause_b251 (g := g) N e he x1 M29
  · refine mj_aload_n (pc := 200) (i := 0) rfl dd_M_clause_200 ?_
    refine mj_getI (pc := 201) (b := 48) (k := 4) qf_M_107 sh_48 cl_12 rfl (by decide) rfl dd_M_clause_201 ?_
    refine mj_iconst (pc := 204) (v := (-1 : Int32)) (by decide) dd_M_clause_204 ?_
    refine mj_icmp_ne (pc := 205) (tgt := 251) dd_M_clause_205 rfl (fun h31 => ?_) (fun h31 => ?_)
    · refine mj_aload_n (pc := 208) (i := 0) rfl dd_M_clause_208 ?_
      refine mj_callVI (pc := 209) (idx := 119) (b := 48) (As := []) (st := []) sh_48 cl_12 ev_M_look ql_M_119 rfl (Nat.le_of_ble_eq_true rfl) (T_M_look (g := g) N e (by omega) M29) dd_M_clause_209 (fun q32 hq32 => ?_)
      refine mj_bipush (pc := 212) (v := (63 : Int32)) (by decide) dd_M_clause_212 ?_
      refine mj_icmp_eq (pc := 214) (tgt := 222) dd_M_clause_214 rfl (fun h33 => ?_) (fun h33 => ?_)
      · refine mj_aload_n (pc := 222) (i := 0) rfl dd_M_clause_222 ?_
        refine mj_dup (pc := 223) rfl dd_M_clause_223 ?_
        refine mj_getI (pc := 224) (b := 48) (k := 3) qf_M_100 sh_48 cl_12 rfl (by decide) rfl dd_M_clause_224 ?_
        refine mj_iconst (pc := 227) (v := (1 : Int32)) (by decide) dd_M_clause_227 ?_
        refine mj_iadd (pc := 228) dd_M_clause_228 ?_
        refine mj_putI (pc := 229) (b := 48) (k := 3) qf_M_100 sh_48 cl_12 rfl (by decide) (by decide) rfl rfl rfl dd_M_clause_229 (fun M34 _ => ?_)
        refine mj_aload_n (pc := 232) (i := 0) rfl dd_M_clause_232 ?_
        refine mj_getR (pc := 233) (b := 48) (k := 11) qf_M_28 sh_48 cl_12 rfl (by decide) (r := 55) rfl dd_M_clause_233 ?_
        refine mj_iload_n (pc := 236) (i := 1) rfl dd_M_clause_236 ?_
        refine mj_aload_n (pc := 237) (i := 0) rfl dd_M_clause_237 ?_
        refine mj_getR (pc := 238) (b := 48) (k := 8) qf_M_19 sh_48 cl_12 rfl (by decide) (r := 52) rfl dd_M_clause_238 ?_
        refine mj_aload_n (pc := 241) (i := 0) rfl dd_M_clause_241 ?_
        refine mj_getI (pc := 242) (b := 48) (k := 14) qf_M_110 sh_48 cl_12 rfl (by decide) rfl dd_M_clause_242 ?_
        refine mj_iald (pc := 245) sh_52 dd_M_clause_245 ?_
        refine mj_iast (pc := 246) sh_55 dd_M_clause_246 (fun M35 _ => ?_)
        refine mj_aload_n (pc := 247) (i := 0) rfl dd_M_clause_247 ?_
        refine mj_callVV (pc := 248) (idx := 140) (b := 48) (As := []) (st := []) sh_48 cl_12 ev_M_sum ql_M_140 rfl (Nat.le_of_ble_eq_true rfl) (T_M_sum (g := g) N 10 e (by omega) M35) dd_M_clause_248 (fun q36 hq36 => ?_)
        refine mj_L (L' := [(0, .ref 48), (1, .int x1)]) [0, 1] rfl ?_
        exact T_M_clause_b251 (g := g) N e he x1 q36
      · refine mj_aload_n (pc := 217) (i := 0) rfl dd_M_clause_217 ?_
        refine mj_callVV (pc := 218) (idx := 116) (b := 48) (As := []) (st := []) sh_48 cl_12 ev_M_bad ql_M_116 rfl (Nat.le_of_ble_eq_true rfl) (T_M_bad (g := g) e (by omega) q32.2) dd_M_clause_218 (fun q37 hq37 => ?_)
        exact mj_vret dd_M_clause_221 rfl rfl
    · refine mj_L (L' := [(0, .ref 48), (1, .int x1)]) [0, 1] rfl ?_
      exact T_M_clause_b251 (g := g) N e he x1 M29
def F_M_clause_b167 (N : Nat) (x1 : Int32) (s0 : Int32) (M : mj_M) : Option (mj_M) :=
    if s0 = (0) then
     (F_M_clause_b184 N x1 s0 M)
     else
     ((F_M_compare N M).bind (fun q26 =>
     (F_M_goOnAnd N (F_M_unit N 10) q26).bind (fun q27 =>
     (F_M_goOnOr N (F_M_unit N 10) q27).bind (fun q28 =>
     F_M_clause_b184 N x1 s0 q28))))
set_option maxRecDepth 20000 in
theorem T_M_clause_b167 {g : mj_G} (N : Nat) (e : Nat) (he : 108 ≤ e) (x1 : Int32) (s0 : Int32) (M : mj_M) : mj_X g (mj_qV g) "WinterTellersModel" c_M_clause 3 none e 167 [(0, .ref 48), (1, .int x1)] [.int s0] M (F_M_clause_b167 N x1 s0 M) := by
  unfold F_M_clause_b167
  refine mj_istore_n (pc := 167) (by decide) dd_M_clause_167 ?_
  refine mj_L (L' := [(2, .int s0), (0, .ref 48), (1, .int x1)]) [0, 1, 2] rfl ?_
  refine mj_iload_n (pc := 168) (i := 2) rfl dd_M_clause_168 ?_
  refine mj_if_eq (pc := 169) (tgt := 184) dd_M_clause_169 rfl (fun h25 => ?_) (fun h25 => ?_)
  · refine mj_L (L' := [(0, .ref 48), (1, .int x1), (2, .int s0)]) [1, 2, 0] rfl ?_
    exact T_M_clause_b184 (g := g) N e he x1 s0 M
  · refine mj_aload_n (pc := 172) (i := 0) rfl dd_M_clause_172 ?_
    refine mj_callVV (pc := 173) (idx := 162) (b := 48) (As := []) (st := []) sh_48 cl_12 ev_M_compare ql_M_162 rfl (Nat.le_of_ble_eq_true rfl) (T_M_compare (g := g) N e (by omega) M) dd_M_clause_173 (fun q26 hq26 => ?_)
    refine mj_aload_n (pc := 176) (i := 0) rfl dd_M_clause_176 ?_
    refine mj_callVV (pc := 177) (idx := 165) (b := 48) (As := []) (st := []) sh_48 cl_12 ev_M_goOnAnd ql_M_165 rfl (Nat.le_of_ble_eq_true rfl) (T_M_goOnAnd (g := g) N (F_M_unit N 10) 105 (by omega) (fun e he => T_M_unit (g := g) N 10 e (by omega)) e (by omega) q26) dd_M_clause_177 (fun q27 hq27 => ?_)
    refine mj_aload_n (pc := 180) (i := 0) rfl dd_M_clause_180 ?_
    refine mj_callVV (pc := 181) (idx := 168) (b := 48) (As := []) (st := []) sh_48 cl_12 ev_M_goOnOr ql_M_168 rfl (Nat.le_of_ble_eq_true rfl) (T_M_goOnOr (g := g) N (F_M_unit N 10) 105 (by omega) (fun e he => T_M_unit (g := g) N 10 e (by omega)) e (by omega) q27) dd_M_clause_181 (fun q28 hq28 => ?_)
    refine mj_L (L' := [(0, .ref 48), (1, .int x1), (2, .int s0)]) [1, 2, 0] rfl ?_
    exact T_M_clause_b184 (g := g) N e he x1 s0 q28
def F_M_clause_b166 (N : Nat) (x1 : Int32) (M : mj_M) : Option (mj_M) :=
    F_M_clause_b167 N x1 (0 : Int32) M
set_option maxRecDepth 20000 in
theorem T_M_clause_b166 {g : mj_G} (N : Nat) (e : Nat) (he : 108 ≤ e) (x1 : Int32) (M : mj_M) : mj_X g (mj_qV g) "WinterTellersModel" c_M_clause 3 none e 166 [(0, .ref 48), (1, .int x1)] [] M (F_M_clause_b166 N x1 M) := by
  unfold F_M_clause_b166
  refine mj_iconst (pc := 166) (v := (0 : Int32)) (by decide) dd_M_clause_166 ?_
  refine mj_L (L' := [(0, .ref 48), (1, .int x1)]) [0, 1] rfl ?_
  exact T_M_clause_b167 (g := g) N e he x1 (0 : Int32) M
def F_M_clause_b128 (N : Nat) (x1 : Int32) (s0 : Int32) (M : mj_M) : Option (mj_M) :=
    if s0 = (0) then
     ((F_M_sum N 10 M).bind (fun q19 =>
     if (q19 48 4) = (-1 : Int32) then
     ((F_M_look N q19).bind (fun q21 =>
     (F_M_isSign q21.1 q21.2).bind (fun q22 =>
     if q22.1 = (0) then
     (F_M_clause_b166 N x1 q22.2)
     else
     (F_M_clause_b167 N x1 (1 : Int32) q22.2))))
     else
     (F_M_clause_b166 N x1 q19)))
     else
     ((F_M_condition N (F_M_unit N 10) M).bind (fun q24 =>
     F_M_clause_b184 N x1 s0 q24))
set_option maxRecDepth 20000 in
theorem T_M_clause_b128 {g : mj_G} (N : Nat) (e : Nat) (he : 108 ≤ e) (x1 : Int32) (s0 : Int32) (M : mj_M) : mj_X g (mj_qV g) "WinterTellersModel" c_M_clause 3 none e 128 [(0, .ref 48), (1, .int x1)] [.int s0] M (F_M_clause_b128 N x1 s0 M) := by
  unfold F_M_clause_b128
  refine mj_istore_n (pc := 128) (by decide) dd_M_clause_128 ?_
  refine mj_L (L' := [(2, .int s0), (0, .ref 48), (1, .int x1)]) [0, 1, 2] rfl ?_
  refine mj_iload_n (pc := 129) (i := 2) rfl dd_M_clause_129 ?_
  refine mj_if_eq (pc := 130) (tgt := 140) dd_M_clause_130 rfl (fun h18 => ?_) (fun h18 => ?_)
  · refine mj_aload_n (pc := 140) (i := 0) rfl dd_M_clause_140 ?_
    refine mj_callVV (pc := 141) (idx := 140) (b := 48) (As := []) (st := []) sh_48 cl_12 ev_M_sum ql_M_140 rfl (Nat.le_of_ble_eq_true rfl) (T_M_sum (g := g) N 10 e (by omega) M) dd_M_clause_141 (fun q19 hq19 => ?_)
    refine mj_aload_n (pc := 144) (i := 0) rfl dd_M_clause_144 ?_
    refine mj_getI (pc := 145) (b := 48) (k := 4) qf_M_107 sh_48 cl_12 rfl (by decide) rfl dd_M_clause_145 ?_
    refine mj_iconst (pc := 148) (v := (-1 : Int32)) (by decide) dd_M_clause_148 ?_
    refine mj_icmp_ne (pc := 149) (tgt := 166) dd_M_clause_149 rfl (fun h20 => ?_) (fun h20 => ?_)
    · refine mj_aload_n (pc := 152) (i := 0) rfl dd_M_clause_152 ?_
      refine mj_callVI (pc := 153) (idx := 119) (b := 48) (As := []) (st := []) sh_48 cl_12 ev_M_look ql_M_119 rfl (Nat.le_of_ble_eq_true rfl) (T_M_look (g := g) N e (by omega) q19) dd_M_clause_153 (fun q21 hq21 => ?_)
      refine mj_callSI (pc := 156) (idx := 153) (As := [.int q21.1]) (st := []) es_M_isSign ql_M_153 rfl (Nat.le_of_ble_eq_true rfl) (T_M_isSign (g := g) e (by omega) q21.1 q21.2) dd_M_clause_156 (fun q22 hq22 => ?_)
      refine mj_if_eq (pc := 159) (tgt := 166) dd_M_clause_159 rfl (fun h23 => ?_) (fun h23 => ?_)
      · refine mj_L (L' := [(0, .ref 48), (1, .int x1)]) [1, 2] rfl ?_
        exact T_M_clause_b166 (g := g) N e he x1 q22.2
      · refine mj_iconst (pc := 162) (v := (1 : Int32)) (by decide) dd_M_clause_162 ?_
        refine mj_goto (pc := 163) (tgt := 167) dd_M_clause_163 rfl ?_
        refine mj_L (L' := [(0, .ref 48), (1, .int x1)]) [1, 2] rfl ?_
        exact T_M_clause_b167 (g := g) N e he x1 (1 : Int32) q22.2
    · refine mj_L (L' := [(0, .ref 48), (1, .int x1)]) [1, 2] rfl ?_
      exact T_M_clause_b166 (g := g) N e he x1 q19
  · refine mj_aload_n (pc := 133) (i := 0) rfl dd_M_clause_133 ?_
    refine mj_callVV (pc := 134) (idx := 159) (b := 48) (As := []) (st := []) sh_48 cl_12 ev_M_condition ql_M_159 rfl (Nat.le_of_ble_eq_true rfl) (T_M_condition (g := g) N (F_M_unit N 10) 105 (by omega) (fun e he => T_M_unit (g := g) N 10 e (by omega)) e (by omega) M) dd_M_clause_134 (fun q24 hq24 => ?_)
    refine mj_goto (pc := 137) (tgt := 184) dd_M_clause_137 rfl ?_
    refine mj_L (L' := [(0, .ref 48), (1, .int x1), (2, .int s0)]) [1, 2, 0] rfl ?_
    exact T_M_clause_b184 (g := g) N e he x1 s0 q24
def F_M_clause_b123 (N : Nat) (x1 : Int32) (M : mj_M) : Option (mj_M) :=
    F_M_clause_b128 N x1 (1 : Int32) M
set_option maxRecDepth 20000 in
theorem T_M_clause_b123 {g : mj_G} (N : Nat) (e : Nat) (he : 108 ≤ e) (x1 : Int32) (M : mj_M) : mj_X g (mj_qV g) "WinterTellersModel" c_M_clause 3 none e 123 [(0, .ref 48), (1, .int x1)] [] M (F_M_clause_b123 N x1 M) := by
  unfold F_M_clause_b123
  refine mj_iconst (pc := 123) (v := (1 : Int32)) (by decide) dd_M_clause_123 ?_
  refine mj_goto (pc := 124) (tgt := 128) dd_M_clause_124 rfl ?_
  refine mj_L (L' := [(0, .ref 48), (1, .int x1)]) [0, 1] rfl ?_
  exact T_M_clause_b128 (g := g) N e he x1 (1 : Int32) M
def F_M_clause_b71 (N : Nat) (x1 : Int32) (M : mj_M) : Option (mj_M) :=
    mj_lt (mj_u M 48 3 ((M 48 3) + (1 : Int32))) (fun M11 =>
     if (M11 48 4) = (-1 : Int32) then
     (mj_ck (M11 48 14) 5 (
     mj_ck x1 700 (mj_lt (mj_u M11 54 x1.toNatClampNeg (M11 52 (M11 48 14).toNatClampNeg)) (fun M13 =>
     (F_M_look N M13).bind (fun q14 =>
     if q14.1 = (33 : Int32) then
     (F_M_clause_b123 N x1 q14.2)
     else
     ((F_M_look N q14.2).bind (fun q16 =>
     if q16.1 = (40 : Int32) then
     (F_M_clause_b123 N x1 q16.2)
     else
     (F_M_clause_b128 N x1 (0 : Int32) q16.2))))))))
     else
     (some M11))
set_option maxRecDepth 20000 in
theorem T_M_clause_b71 {g : mj_G} (N : Nat) (e : Nat) (he : 108 ≤ e) (x1 : Int32) (M : mj_M) : mj_X g (mj_qV g) "WinterTellersModel" c_M_clause 3 none e 71 [(0, .ref 48), (1, .int x1)] [] M (F_M_clause_b71 N x1 M) := by
  unfold F_M_clause_b71
  refine mj_aload_n (pc := 71) (i := 0) rfl dd_M_clause_71 ?_
  refine mj_dup (pc := 72) rfl dd_M_clause_72 ?_
  refine mj_getI (pc := 73) (b := 48) (k := 3) qf_M_100 sh_48 cl_12 rfl (by decide) rfl dd_M_clause_73 ?_
  refine mj_iconst (pc := 76) (v := (1 : Int32)) (by decide) dd_M_clause_76 ?_
  refine mj_iadd (pc := 77) dd_M_clause_77 ?_
  refine mj_putI (pc := 78) (b := 48) (k := 3) qf_M_100 sh_48 cl_12 rfl (by decide) (by decide) rfl rfl rfl dd_M_clause_78 (fun M11 _ => ?_)
  refine mj_aload_n (pc := 81) (i := 0) rfl dd_M_clause_81 ?_
  refine mj_getI (pc := 82) (b := 48) (k := 4) qf_M_107 sh_48 cl_12 rfl (by decide) rfl dd_M_clause_82 ?_
  refine mj_iconst (pc := 85) (v := (-1 : Int32)) (by decide) dd_M_clause_85 ?_
  refine mj_icmp_eq (pc := 86) (tgt := 90) dd_M_clause_86 rfl (fun h12 => ?_) (fun h12 => ?_)
  · refine mj_aload_n (pc := 90) (i := 0) rfl dd_M_clause_90 ?_
    refine mj_getR (pc := 91) (b := 48) (k := 10) qf_M_25 sh_48 cl_12 rfl (by decide) (r := 54) rfl dd_M_clause_91 ?_
    refine mj_iload_n (pc := 94) (i := 1) rfl dd_M_clause_94 ?_
    refine mj_aload_n (pc := 95) (i := 0) rfl dd_M_clause_95 ?_
    refine mj_getR (pc := 96) (b := 48) (k := 8) qf_M_19 sh_48 cl_12 rfl (by decide) (r := 52) rfl dd_M_clause_96 ?_
    refine mj_aload_n (pc := 99) (i := 0) rfl dd_M_clause_99 ?_
    refine mj_getI (pc := 100) (b := 48) (k := 14) qf_M_110 sh_48 cl_12 rfl (by decide) rfl dd_M_clause_100 ?_
    refine mj_iald (pc := 103) sh_52 dd_M_clause_103 ?_
    refine mj_iast (pc := 104) sh_54 dd_M_clause_104 (fun M13 _ => ?_)
    refine mj_aload_n (pc := 105) (i := 0) rfl dd_M_clause_105 ?_
    refine mj_callVI (pc := 106) (idx := 119) (b := 48) (As := []) (st := []) sh_48 cl_12 ev_M_look ql_M_119 rfl (Nat.le_of_ble_eq_true rfl) (T_M_look (g := g) N e (by omega) M13) dd_M_clause_106 (fun q14 hq14 => ?_)
    refine mj_bipush (pc := 109) (v := (33 : Int32)) (by decide) dd_M_clause_109 ?_
    refine mj_icmp_eq (pc := 111) (tgt := 123) dd_M_clause_111 rfl (fun h15 => ?_) (fun h15 => ?_)
    · refine mj_L (L' := [(0, .ref 48), (1, .int x1)]) [0, 1] rfl ?_
      exact T_M_clause_b123 (g := g) N e he x1 q14.2
    · refine mj_aload_n (pc := 114) (i := 0) rfl dd_M_clause_114 ?_
      refine mj_callVI (pc := 115) (idx := 119) (b := 48) (As := []) (st := []) sh_48 cl_12 ev_M_look ql_M_119 rfl (Nat.le_of_ble_eq_true rfl) (T_M_look (g := g) N e (by omega) q14.2) dd_M_clause_115 (fun q16 hq16 => ?_)
      refine mj_bipush (pc := 118) (v := (40 : Int32)) (by decide) dd_M_clause_118 ?_
      refine mj_icmp_ne (pc := 120) (tgt := 127) dd_M_clause_120 rfl (fun h17 => ?_) (fun h17 => ?_)
      · refine mj_L (L' := [(0, .ref 48), (1, .int x1)]) [0, 1] rfl ?_
        exact T_M_clause_b123 (g := g) N e he x1 q16.2
      · refine mj_iconst (pc := 127) (v := (0 : Int32)) (by decide) dd_M_clause_127 ?_
        refine mj_L (L' := [(0, .ref 48), (1, .int x1)]) [0, 1] rfl ?_
        exact T_M_clause_b128 (g := g) N e he x1 (0 : Int32) q16.2
  · exact mj_vret dd_M_clause_89 rfl rfl
def F_M_clause_b40 (N : Nat) (x1 : Int32) (M : mj_M) : Option (mj_M) :=
    mj_lt (mj_u M 48 3 ((M 48 3) + (1 : Int32))) (fun M6 =>
     if (M6 48 4) = (-1 : Int32) then
     ((F_M_look N M6).bind (fun q8 =>
     if q8.1 = (58 : Int32) then
     (F_M_clause_b71 N x1 q8.2)
     else
     ((F_M_bad q8.2).bind (fun q10 =>
     F_M_clause_b71 N x1 q10))))
     else
     (F_M_clause_b71 N x1 M6))
set_option maxRecDepth 20000 in
theorem T_M_clause_b40 {g : mj_G} (N : Nat) (e : Nat) (he : 108 ≤ e) (x1 : Int32) (M : mj_M) : mj_X g (mj_qV g) "WinterTellersModel" c_M_clause 3 none e 40 [(0, .ref 48), (1, .int x1)] [] M (F_M_clause_b40 N x1 M) := by
  unfold F_M_clause_b40
  refine mj_aload_n (pc := 40) (i := 0) rfl dd_M_clause_40 ?_
  refine mj_dup (pc := 41) rfl dd_M_clause_41 ?_
  refine mj_getI (pc := 42) (b := 48) (k := 3) qf_M_100 sh_48 cl_12 rfl (by decide) rfl dd_M_clause_42 ?_
  refine mj_iconst (pc := 45) (v := (1 : Int32)) (by decide) dd_M_clause_45 ?_
  refine mj_iadd (pc := 46) dd_M_clause_46 ?_
  refine mj_putI (pc := 47) (b := 48) (k := 3) qf_M_100 sh_48 cl_12 rfl (by decide) (by decide) rfl rfl rfl dd_M_clause_47 (fun M6 _ => ?_)
  refine mj_aload_n (pc := 50) (i := 0) rfl dd_M_clause_50 ?_
  refine mj_getI (pc := 51) (b := 48) (k := 4) qf_M_107 sh_48 cl_12 rfl (by decide) rfl dd_M_clause_51 ?_
  refine mj_iconst (pc := 54) (v := (-1 : Int32)) (by decide) dd_M_clause_54 ?_
  refine mj_icmp_ne (pc := 55) (tgt := 71) dd_M_clause_55 rfl (fun h7 => ?_) (fun h7 => ?_)
  · refine mj_aload_n (pc := 58) (i := 0) rfl dd_M_clause_58 ?_
    refine mj_callVI (pc := 59) (idx := 119) (b := 48) (As := []) (st := []) sh_48 cl_12 ev_M_look ql_M_119 rfl (Nat.le_of_ble_eq_true rfl) (T_M_look (g := g) N e (by omega) M6) dd_M_clause_59 (fun q8 hq8 => ?_)
    refine mj_bipush (pc := 62) (v := (58 : Int32)) (by decide) dd_M_clause_62 ?_
    refine mj_icmp_eq (pc := 64) (tgt := 71) dd_M_clause_64 rfl (fun h9 => ?_) (fun h9 => ?_)
    · refine mj_L (L' := [(0, .ref 48), (1, .int x1)]) [0, 1] rfl ?_
      exact T_M_clause_b71 (g := g) N e he x1 q8.2
    · refine mj_aload_n (pc := 67) (i := 0) rfl dd_M_clause_67 ?_
      refine mj_callVV (pc := 68) (idx := 116) (b := 48) (As := []) (st := []) sh_48 cl_12 ev_M_bad ql_M_116 rfl (Nat.le_of_ble_eq_true rfl) (T_M_bad (g := g) e (by omega) q8.2) dd_M_clause_68 (fun q10 hq10 => ?_)
      refine mj_L (L' := [(0, .ref 48), (1, .int x1)]) [0, 1] rfl ?_
      exact T_M_clause_b71 (g := g) N e he x1 q10
  · refine mj_L (L' := [(0, .ref 48), (1, .int x1)]) [0, 1] rfl ?_
    exact T_M_clause_b71 (g := g) N e he x1 M6
def F_M_clause (N : Nat) (M : mj_M) : Option (mj_M) :=
    mj_ck (M 48 14) 5 (
     mj_lt (((140 : Int32) * (M 48 14)) + (M 53 (M 48 14).toNatClampNeg)) (fun v1 =>
     if (M 48 4) = (-1 : Int32) then
     ((F_M_look N M).bind (fun q3 =>
     if q3.1 = (121 : Int32) then
     (F_M_clause_b40 N v1 q3.2)
     else
     ((F_M_bad q3.2).bind (fun q5 =>
     F_M_clause_b40 N v1 q5))))
     else
     (F_M_clause_b40 N v1 M)))
set_option maxRecDepth 20000 in
theorem T_M_clause {g : mj_G} (N : Nat) : ∀ d, 109 ≤ d → ∀ (M : mj_M), mj_Mt g (mj_qV g) d y_M_clause c_M_clause 3 none [.ref 48] M (F_M_clause N M) := by
  intro d hd M
  obtain ⟨e, rfl⟩ : ∃ e, d = e + 1 := ⟨d - 1, by omega⟩
  have he : 108 ≤ e := by omega
  refine mj_met (by decide +kernel) (Nat.le_of_ble_eq_true rfl) ?_
  unfold F_M_clause
  refine mj_L (L' := [(0, .ref 48)]) [0] rfl ?_
  refine mj_sipush (pc := 0) (v := (140 : Int32)) (by decide) dd_M_clause_0 ?_
  refine mj_aload_n (pc := 3) (i := 0) rfl dd_M_clause_3 ?_
  refine mj_getI (pc := 4) (b := 48) (k := 14) qf_M_110 sh_48 cl_12 rfl (by decide) rfl dd_M_clause_4 ?_
  refine mj_imul (pc := 7) dd_M_clause_7 ?_
  refine mj_aload_n (pc := 8) (i := 0) rfl dd_M_clause_8 ?_
  refine mj_getR (pc := 9) (b := 48) (k := 9) qf_M_22 sh_48 cl_12 rfl (by decide) (r := 53) rfl dd_M_clause_9 ?_
  refine mj_aload_n (pc := 12) (i := 0) rfl dd_M_clause_12 ?_
  refine mj_getI (pc := 13) (b := 48) (k := 14) qf_M_110 sh_48 cl_12 rfl (by decide) rfl dd_M_clause_13 ?_
  refine mj_iald (pc := 16) sh_53 dd_M_clause_16 ?_
  refine mj_iadd (pc := 17) dd_M_clause_17 ?_
  refine mj_istore_nL (pc := 18) (by decide) dd_M_clause_18 (fun v1 _ => ?_)
  refine mj_L (L' := [(1, .int v1), (0, .ref 48)]) [0, 1] rfl ?_
  refine mj_aload_n (pc := 19) (i := 0) rfl dd_M_clause_19 ?_
  refine mj_getI (pc := 20) (b := 48) (k := 4) qf_M_107 sh_48 cl_12 rfl (by decide) rfl dd_M_clause_20 ?_
  refine mj_iconst (pc := 23) (v := (-1 : Int32)) (by decide) dd_M_clause_23 ?_
  refine mj_icmp_ne (pc := 24) (tgt := 40) dd_M_clause_24 rfl (fun h2 => ?_) (fun h2 => ?_)
  · refine mj_aload_n (pc := 27) (i := 0) rfl dd_M_clause_27 ?_
    refine mj_callVI (pc := 28) (idx := 119) (b := 48) (As := []) (st := []) sh_48 cl_12 ev_M_look ql_M_119 rfl (Nat.le_of_ble_eq_true rfl) (T_M_look (g := g) N e (by omega) M) dd_M_clause_28 (fun q3 hq3 => ?_)
    refine mj_bipush (pc := 31) (v := (121 : Int32)) (by decide) dd_M_clause_31 ?_
    refine mj_icmp_eq (pc := 33) (tgt := 40) dd_M_clause_33 rfl (fun h4 => ?_) (fun h4 => ?_)
    · refine mj_L (L' := [(0, .ref 48), (1, .int v1)]) [1, 0] rfl ?_
      exact T_M_clause_b40 (g := g) N e he v1 q3.2
    · refine mj_aload_n (pc := 36) (i := 0) rfl dd_M_clause_36 ?_
      refine mj_callVV (pc := 37) (idx := 116) (b := 48) (As := []) (st := []) sh_48 cl_12 ev_M_bad ql_M_116 rfl (Nat.le_of_ble_eq_true rfl) (T_M_bad (g := g) e (by omega) q3.2) dd_M_clause_37 (fun q5 hq5 => ?_)
      refine mj_L (L' := [(0, .ref 48), (1, .int v1)]) [1, 0] rfl ?_
      exact T_M_clause_b40 (g := g) N e he v1 q5
  · refine mj_L (L' := [(0, .ref 48), (1, .int v1)]) [1, 0] rfl ?_
    exact T_M_clause_b40 (g := g) N e he v1 M
def F_M_atEnd (N : Nat) (M : mj_M) : Option (Int32 × mj_M) :=
    if (M 48 4) = (-1 : Int32) then
     ((F_M_look N M).bind (fun q2 =>
     if q2.1 = (-1 : Int32) then
     (some (q2.2 48 4, q2.2))
     else
     ((F_M_bad q2.2).bind (fun q4 =>
     some (q4 48 4, q4)))))
     else
     (some (M 48 4, M))
set_option maxRecDepth 20000 in
theorem T_M_atEnd {g : mj_G} (N : Nat) : ∀ d, 3 ≤ d → ∀ (M : mj_M), mj_Mt g (mj_qI g) d y_M_atEnd c_M_atEnd 1 (some .int) [.ref 48] M (F_M_atEnd N M) := by
  intro d hd M
  obtain ⟨e, rfl⟩ : ∃ e, d = e + 1 := ⟨d - 1, by omega⟩
  have he : 2 ≤ e := by omega
  refine mj_met (by decide +kernel) (Nat.le_of_ble_eq_true rfl) ?_
  unfold F_M_atEnd
  refine mj_L (L' := [(0, .ref 48)]) [0] rfl ?_
  refine mj_aload_n (pc := 0) (i := 0) rfl dd_M_atEnd_0 ?_
  refine mj_getI (pc := 1) (b := 48) (k := 4) qf_M_107 sh_48 cl_12 rfl (by decide) rfl dd_M_atEnd_1 ?_
  refine mj_iconst (pc := 4) (v := (-1 : Int32)) (by decide) dd_M_atEnd_4 ?_
  refine mj_icmp_ne (pc := 5) (tgt := 20) dd_M_atEnd_5 rfl (fun h1 => ?_) (fun h1 => ?_)
  · refine mj_aload_n (pc := 8) (i := 0) rfl dd_M_atEnd_8 ?_
    refine mj_callVI (pc := 9) (idx := 119) (b := 48) (As := []) (st := []) sh_48 cl_12 ev_M_look ql_M_119 rfl (Nat.le_of_ble_eq_true rfl) (T_M_look (g := g) N e (by omega) M) dd_M_atEnd_9 (fun q2 hq2 => ?_)
    refine mj_iconst (pc := 12) (v := (-1 : Int32)) (by decide) dd_M_atEnd_12 ?_
    refine mj_icmp_eq (pc := 13) (tgt := 20) dd_M_atEnd_13 rfl (fun h3 => ?_) (fun h3 => ?_)
    · refine mj_aload_n (pc := 20) (i := 0) rfl dd_M_atEnd_20 ?_
      refine mj_getI (pc := 21) (b := 48) (k := 4) qf_M_107 sh_48 cl_12 rfl (by decide) rfl dd_M_atEnd_21 ?_
      exact mj_iret dd_M_atEnd_24 rfl rfl
    · refine mj_aload_n (pc := 16) (i := 0) rfl dd_M_atEnd_16 ?_
      refine mj_callVV (pc := 17) (idx := 116) (b := 48) (As := []) (st := []) sh_48 cl_12 ev_M_bad ql_M_116 rfl (Nat.le_of_ble_eq_true rfl) (T_M_bad (g := g) e (by omega) q2.2) dd_M_atEnd_17 (fun q4 hq4 => ?_)
      refine mj_aload_n (pc := 20) (i := 0) rfl dd_M_atEnd_20 ?_
      refine mj_getI (pc := 21) (b := 48) (k := 4) qf_M_107 sh_48 cl_12 rfl (by decide) rfl dd_M_atEnd_21 ?_
      exact mj_iret dd_M_atEnd_24 rfl rfl
  · refine mj_aload_n (pc := 20) (i := 0) rfl dd_M_atEnd_20 ?_
    refine mj_getI (pc := 21) (b := 48) (k := 4) qf_M_107 sh_48 cl_12 rfl (by decide) rfl dd_M_atEnd_21 ?_
    exact mj_iret dd_M_atEnd_24 rfl rfl
