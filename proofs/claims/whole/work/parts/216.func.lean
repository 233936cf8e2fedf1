/-! ===== functions and their proofs ===== -/
def F_M_places (N : Nat) (x1 : Int32) (M : mj_M) : Option (Int32 × mj_M) :=
    if (M 48 25) = (0) then
     (some ((-1 : Int32), M))
     else
     ((F_M_in x1 (0 : Int32) (1 : Int32) M).bind (fun q2 =>
     if q2.1 = (0) then
     (some ((-1 : Int32), q2.2))
     else
     (mj_lt (mj_u q2.2 48 35 (-1 : Int32)) (fun M4 =>
     (F_M_tryPlaces N 10 (0 : Int32) (M4 65 43) (0 : Int32) (0 : Int32) M4).bind (fun q5 =>
     if x1 = (0) then
     (some (q5 48 35, q5))
     else
     (some (q5 48 36, q5)))))))
set_option maxRecDepth 20000 in
theorem T_M_places {g : mj_G} (N : Nat) : ∀ d, 30 ≤ d → ∀ (x1 : Int32) (M : mj_M), mj_Mt g (mj_qI g) d y_M_places c_M_places 2 (some .int) [.ref 48, .int x1] M (F_M_places N x1 M) := by
  intro d hd x1 M
  obtain ⟨e, rfl⟩ : ∃ e, d = e + 1 := ⟨d - 1, by omega⟩
  have he : 29 ≤ e := by omega
  refine mj_met (by decide +kernel) (Nat.le_of_ble_eq_true rfl) ?_
  unfold F_M_places
  refine mj_L (L' := [(0, .ref 48), (1, .int x1)]) [0, 1] rfl ?_
  refine mj_aload_n (pc := 0) (i := 0) rfl dd_M_places_0 ?_
  refine mj_getI (pc := 1) (b := 48) (k := 25) qf_M_242 sh_48 cl_12 rfl (by decide) rfl dd_M_places_1 ?_
  refine mj_if_eq (pc := 4) (tgt := 16) dd_M_places_4 rfl (fun h1 => ?_) (fun h1 => ?_)
  · refine mj_iconst (pc := 16) (v := (-1 : Int32)) (by decide) dd_M_places_16 ?_
    exact mj_iret dd_M_places_17 rfl rfl
  · refine mj_iload_n (pc := 7) (i := 1) rfl dd_M_places_7 ?_
    refine mj_iconst (pc := 8) (v := (0 : Int32)) (by decide) dd_M_places_8 ?_
    refine mj_iconst (pc := 9) (v := (1 : Int32)) (by decide) dd_M_places_9 ?_
    refine mj_callSI (pc := 10) (idx := 205) (As := [.int x1, .int (0 : Int32), .int (1 : Int32)]) (st := []) es_M_in ql_M_205 rfl (Nat.le_of_ble_eq_true rfl) (T_M_in (g := g) e (by omega) x1 (0 : Int32) (1 : Int32) M) dd_M_places_10 (fun q2 hq2 => ?_)
    refine mj_if_ne (pc := 13) (tgt := 18) dd_M_places_13 rfl (fun h3 => ?_) (fun h3 => ?_)
    · refine mj_iconst (pc := 16) (v := (-1 : Int32)) (by decide) dd_M_places_16 ?_
      exact mj_iret dd_M_places_17 rfl rfl
    · refine mj_aload_n (pc := 18) (i := 0) rfl dd_M_places_18 ?_
      refine mj_iconst (pc := 19) (v := (-1 : Int32)) (by decide) dd_M_places_19 ?_
      refine mj_putI (pc := 20) (b := 48) (k := 35) qf_M_352 sh_48 cl_12 rfl (by decide) (by decide) rfl rfl rfl dd_M_places_20 (fun M4 _ => ?_)
      refine mj_aload_n (pc := 23) (i := 0) rfl dd_M_places_23 ?_
      refine mj_iconst (pc := 24) (v := (0 : Int32)) (by decide) dd_M_places_24 ?_
      refine mj_aload_n (pc := 25) (i := 0) rfl dd_M_places_25 ?_
      refine mj_getR (pc := 26) (b := 48) (k := 27) qf_M_58 sh_48 cl_12 rfl (by decide) (r := 65) rfl dd_M_places_26 ?_
      refine mj_bipush (pc := 29) (v := (43 : Int32)) (by decide) dd_M_places_29 ?_
      refine mj_ialdK (pc := 31) (j := 43) sh_65 (by decide) rfl dd_M_places_31 ?_
      refine mj_iconst (pc := 32) (v := (0 : Int32)) (by decide) dd_M_places_32 ?_
      refine mj_iconst (pc := 33) (v := (0 : Int32)) (by decide) dd_M_places_33 ?_
      refine mj_callVV (pc := 34) (idx := 367) (b := 48) (As := [.int (0 : Int32), .int (M4 65 43), .int (0 : Int32), .int (0 : Int32)]) (st := []) sh_48 cl_12 ev_M_tryPlaces ql_M_367 rfl (Nat.le_of_ble_eq_true rfl) (T_M_tryPlaces (g := g) N 10 e (by omega) (0 : Int32) (M4 65 43) (0 : Int32) (0 : Int32) M4) dd_M_places_34 (fun q5 hq5 => ?_)
      refine mj_iload_n (pc := 37) (i := 1) rfl dd_M_places_37 ?_
      refine mj_if_ne (pc := 38) (tgt := 48) dd_M_places_38 rfl (fun h6 => ?_) (fun h6 => ?_)
      · refine mj_aload_n (pc := 41) (i := 0) rfl dd_M_places_41 ?_
        refine mj_getI (pc := 42) (b := 48) (k := 35) qf_M_352 sh_48 cl_12 rfl (by decide) rfl dd_M_places_42 ?_
        refine mj_goto (pc := 45) (tgt := 52) dd_M_places_45 rfl ?_
        exact mj_iret dd_M_places_52 rfl rfl
      · refine mj_aload_n (pc := 48) (i := 0) rfl dd_M_places_48 ?_
        refine mj_getI (pc := 49) (b := 48) (k := 36) qf_M_355 sh_48 cl_12 rfl (by decide) rfl dd_M_places_49 ?_
        exact mj_iret dd_M_places_52 rfl rfl
def F_Plans_serves_b3 (N : Nat) : Nat → Int32 → Int32 → Int32 → Int32 → mj_M → Option (Int32 × mj_M)
  | 0, _, _, _, _, _ => none
  | n + 1, x1, x2, x3, x4, M =>
    if (M 13 1) ≤ x4 then
     (some ((0 : Int32), M))
     else
     (if ((x1 >>> (x4 &&& 31)) &&& (1 : Int32)) = (0) then
     (F_Plans_serves_b3 N n x1 x2 x3 (x4 + (1 : Int32)) M)
     else
     (mj_ck ((x2 * (6 : Int32)) + x4) 36 (
     if (M 34 ((x2 * (6 : Int32)) + x4).toNatClampNeg) < x3 then
     (F_Plans_serves_b3 N n x1 x2 x3 (x4 + (1 : Int32)) M)
     else
     (some ((1 : Int32), M)))))
set_option maxRecDepth 20000 in
theorem T_Plans_serves_b3 {g : mj_G} (N : Nat) (e : Nat) (he : 0 ≤ e) : ∀ (n : Nat) (x1 : Int32) (x2 : Int32) (x3 : Int32) (x4 : Int32) (M : mj_M), mj_X g (mj_qI g) "WinterTellers$Plans" c_Plans_serves 5 (some .boolean) e 3 [(0, .ref 33), (1, .int x1), (2, .int x2), (3, .int x3), (4, .int x4)] [] M (F_Plans_serves_b3 N n x1 x2 x3 x4 M) := by
  intro n
  induction n with
  | zero => intro x1 x2 x3 x4 M; exact mj_none
  | succ n ih =>
    intro x1 x2 x3 x4 M
    rw [F_Plans_serves_b3]
    refine mj_iload (pc := 3) (i := 4) rfl dd_Plans_serves_3 ?_
    refine mj_aload_n (pc := 5) (i := 0) rfl dd_Plans_serves_5 ?_
    refine mj_getR (pc := 6) (b := 33) (k := 7) qf_Plans_24 sh_33 cl_7 rfl (by decide) (r := 13) rfl dd_Plans_serves_6 ?_
    refine mj_getI (pc := 9) (b := 13) (k := 1) qf_Plans_43 sh_13 cl_0 rfl (by decide) rfl dd_Plans_serves_9 ?_
    refine mj_icmp_ge (pc := 12) (tgt := 48) dd_Plans_serves_12 rfl (fun h1 => ?_) (fun h1 => ?_)
    · refine mj_iconst (pc := 48) (v := (0 : Int32)) (by decide) dd_Plans_serves_48 ?_
      exact mj_zret (by decide) dd_Plans_serves_49 rfl rfl
    · refine mj_iload_n (pc := 15) (i := 1) rfl dd_Plans_serves_15 ?_
      refine mj_iload (pc := 16) (i := 4) rfl dd_Plans_serves_16 ?_
      refine mj_ishr (pc := 18) dd_Plans_serves_18 ?_
      refine mj_iconst (pc := 19) (v := (1 : Int32)) (by decide) dd_Plans_serves_19 ?_
      refine mj_iand (pc := 20) dd_Plans_serves_20 ?_
      refine mj_if_eq (pc := 21) (tgt := 42) dd_Plans_serves_21 rfl (fun h2 => ?_) (fun h2 => ?_)
      · refine mj_iinc (pc := 42) (i := 4) (z := (1 : Int32)) rfl (by decide) (by decide) dd_Plans_serves_42 ?_
        refine mj_L (L' := [(4, .int (x4 + (1 : Int32))), (0, .ref 33), (1, .int x1), (2, .int x2), (3, .int x3)]) [0, 1, 2, 3, 4] rfl ?_
        refine mj_goto (pc := 45) (tgt := 3) dd_Plans_serves_45 rfl ?_
        refine mj_L (L' := [(0, .ref 33), (1, .int x1), (2, .int x2), (3, .int x3), (4, .int (x4 + (1 : Int32)))]) [1, 2, 3, 4, 0] rfl ?_
        exact ih x1 x2 x3 (x4 + (1 : Int32)) M
      · refine mj_aload_n (pc := 24) (i := 0) rfl dd_Plans_serves_24 ?_
        refine mj_getR (pc := 25) (b := 33) (k := 10) qf_Plans_9 sh_33 cl_7 rfl (by decide) (r := 34) rfl dd_Plans_serves_25 ?_
        refine mj_iload_n (pc := 28) (i := 2) rfl dd_Plans_serves_28 ?_
        refine mj_bipush (pc := 29) (v := (6 : Int32)) (by decide) dd_Plans_serves_29 ?_
        refine mj_imul (pc := 31) dd_Plans_serves_31 ?_
        refine mj_iload (pc := 32) (i := 4) rfl dd_Plans_serves_32 ?_
        refine mj_iadd (pc := 34) dd_Plans_serves_34 ?_
        refine mj_iald (pc := 35) sh_34 dd_Plans_serves_35 ?_
        refine mj_iload_n (pc := 36) (i := 3) rfl dd_Plans_serves_36 ?_
        refine mj_icmp_lt (pc := 37) (tgt := 42) dd_Plans_serves_37 rfl (fun h3 => ?_) (fun h3 => ?_)
        · refine mj_iinc (pc := 42) (i := 4) (z := (1 : Int32)) rfl (by decide) (by decide) dd_Plans_serves_42 ?_
          refine mj_L (L' := [(4, .int (x4 + (1 : Int32))), (0, .ref 33), (1, .int x1), (2, .int x2), (3, .int x3)]) [0, 1, 2, 3, 4] rfl ?_
          refine mj_goto (pc := 45) (tgt := 3) dd_Plans_serves_45 rfl ?_
          refine mj_L (L' := [(0, .ref 33), (1, .int x1), (2, .int x2), (3, .int x3), (4, .int (x4 + (1 : Int32)))]) [1, 2, 3, 4, 0] rfl ?_
          exact ih x1 x2 x3 (x4 + (1 : Int32)) M
        · refine mj_iconst (pc := 40) (v := (1 : Int32)) (by decide) dd_Plans_serves_40 ?_
          exact mj_zret (by decide) dd_Plans_serves_41 rfl rfl
def F_Plans_serves (N : Nat) (x1 : Int32) (x2 : Int32) (x3 : Int32) (M : mj_M) : Option (Int32 × mj_M) :=
    F_Plans_serves_b3 N N x1 x2 x3 (0 : Int32) M
set_option maxRecDepth 20000 in
theorem T_Plans_serves {g : mj_G} (N : Nat) : ∀ d, 1 ≤ d → ∀ (x1 : Int32) (x2 : Int32) (x3 : Int32) (M : mj_M), mj_Mt g (mj_qI g) d y_Plans_serves c_Plans_serves 5 (some .boolean) [.ref 33, .int x1, .int x2, .int x3] M (F_Plans_serves N x1 x2 x3 M) := by
  intro d hd x1 x2 x3 M
  obtain ⟨e, rfl⟩ : ∃ e, d = e + 1 := ⟨d - 1, by omega⟩
  have he : 0 ≤ e := by omega
  refine mj_met (by decide +kernel) (Nat.le_of_ble_eq_true rfl) ?_
  unfold F_Plans_serves
  refine mj_L (L' := [(0, .ref 33), (1, .int x1), (2, .int x2), (3, .int x3)]) [0, 1, 2, 3] rfl ?_
  refine mj_iconst (pc := 0) (v := (0 : Int32)) (by decide) dd_Plans_serves_0 ?_
  refine mj_istore (pc := 1) (by decide) dd_Plans_serves_1 ?_
  refine mj_L (L' := [(4, .int (0 : Int32)), (0, .ref 33), (1, .int x1), (2, .int x2), (3, .int x3)]) [0, 1, 2, 3, 4] rfl ?_
  refine mj_L (L' := [(0, .ref 33), (1, .int x1), (2, .int x2), (3, .int x3), (4, .int (0 : Int32))]) [1, 2, 3, 4, 0] rfl ?_
  exact T_Plans_serves_b3 (g := g) N e he N x1 x2 x3 (0 : Int32) M
def F_Plans_servesAll_b2 (N : Nat) : Nat → Int32 → Int32 → Int32 → mj_M → Option (Int32 × mj_M)
  | 0, _, _, _, _ => none
  | n + 1, x1, x2, x3, M =>
    if (M 13 0) ≤ x3 then
     (some ((1 : Int32), M))
     else
     ((F_Plans_serves N x1 x3 x2 M).bind (fun q2 =>
     if q2.1 = (0) then
     (some ((0 : Int32), q2.2))
     else
     (F_Plans_servesAll_b2 N n x1 x2 (x3 + (1 : Int32)) q2.2)))
set_option maxRecDepth 20000 in
theorem T_Plans_servesAll_b2 {g : mj_G} (N : Nat) (e : Nat) (he : 1 ≤ e) : ∀ (n : Nat) (x1 : Int32) (x2 : Int32) (x3 : Int32) (M : mj_M), mj_X g (mj_qI g) "WinterTellers$Plans" c_Plans_servesAll 4 (some .boolean) e 2 [(0, .ref 33), (1, .int x1), (2, .int x2), (3, .int x3)] [] M (F_Plans_servesAll_b2 N n x1 x2 x3 M) := by
  intro n
  induction n with
  | zero => intro x1 x2 x3 M; exact mj_none
  | succ n ih =>
    intro x1 x2 x3 M
    rw [F_Plans_servesAll_b2]
    refine mj_iload_n (pc := 2) (i := 3) rfl dd_Plans_servesAll_2 ?_
    refine mj_aload_n (pc := 3) (i := 0) rfl dd_Plans_servesAll_3 ?_
    refine mj_getR (pc := 4) (b := 33) (k := 7) qf_Plans_24 sh_33 cl_7 rfl (by decide) (r := 13) rfl dd_Plans_servesAll_4 ?_
    refine mj_getI (pc := 7) (b := 13) (k := 0) qf_Plans_63 sh_13 cl_0 rfl (by decide) rfl dd_Plans_servesAll_7 ?_
    refine mj_icmp_ge (pc := 10) (tgt := 31) dd_Plans_servesAll_10 rfl (fun h1 => ?_) (fun h1 => ?_)
    · refine mj_iconst (pc := 31) (v := (1 : Int32)) (by decide) dd_Plans_servesAll_31 ?_
      exact mj_zret (by decide) dd_Plans_servesAll_32 rfl rfl
    · refine mj_aload_n (pc := 13) (i := 0) rfl dd_Plans_servesAll_13 ?_
      refine mj_iload_n (pc := 14) (i := 1) rfl dd_Plans_servesAll_14 ?_
      refine mj_iload_n (pc := 15) (i := 3) rfl dd_Plans_servesAll_15 ?_
      refine mj_iload_n (pc := 16) (i := 2) rfl dd_Plans_servesAll_16 ?_
      refine mj_callVI (pc := 17) (idx := 134) (b := 33) (As := [.int x1, .int x3, .int x2]) (st := []) sh_33 cl_7 ev_Plans_serves ql_Plans_134 rfl (Nat.le_of_ble_eq_true rfl) (T_Plans_serves (g := g) N e (by omega) x1 x3 x2 M) dd_Plans_servesAll_17 (fun q2 hq2 => ?_)
      refine mj_if_ne (pc := 20) (tgt := 25) dd_Plans_servesAll_20 rfl (fun h3 => ?_) (fun h3 => ?_)
      · refine mj_iconst (pc := 23) (v := (0 : Int32)) (by decide) dd_Plans_servesAll_23 ?_
        exact mj_zret (by decide) dd_Plans_servesAll_24 rfl rfl
      · refine mj_iinc (pc := 25) (i := 3) (z := (1 : Int32)) rfl (by decide) (by decide) dd_Plans_servesAll_25 ?_
        refine mj_L (L' := [(3, .int (x3 + (1 : Int32))), (0, .ref 33), (1, .int x1), (2, .int x2)]) [0, 1, 2, 3] rfl ?_
        refine mj_goto (pc := 28) (tgt := 2) dd_Plans_servesAll_28 rfl ?_
        refine mj_L (L' := [(0, .ref 33), (1, .int x1), (2, .int x2), (3, .int (x3 + (1 : Int32)))]) [1, 2, 3, 0] rfl ?_
        exact ih x1 x2 (x3 + (1 : Int32)) q2.2
def F_Plans_servesAll (N : Nat) (x1 : Int32) (x2 : Int32) (M : mj_M) : Option (Int32 × mj_M) :=
    F_Plans_servesAll_b2 N N x1 x2 (0 : Int32) M
set_option maxRecDepth 20000 in
theorem T_Plans_servesAll {g : mj_G} (N : Nat) : ∀ d, 2 ≤ d → ∀ (x1 : Int32) (x2 : Int32) (M : mj_M), mj_Mt g (mj_qI g) d y_Plans_servesAll c_Plans_servesAll 4 (some .boolean) [.ref 33, .int x1, .int x2] M (F_Plans_servesAll N x1 x2 M) := by
  intro d hd x1 x2 M
  obtain ⟨e, rfl⟩ : ∃ e, d = e + 1 := ⟨d - 1, by omega⟩
  have he : 1 ≤ e := by omega
  refine mj_met (by decide +kernel) (Nat.le_of_ble_eq_true rfl) ?_
  unfold F_Plans_servesAll
  refine mj_L (L' := [(0, .ref 33), (1, .int x1), (2, .int x2)]) [0, 1, 2] rfl ?_
  refine mj_iconst (pc := 0) (v := (0 : Int32)) (by decide) dd_Plans_servesAll_0 ?_
  refine mj_istore_n (pc := 1) (by decide) dd_Plans_servesAll_1 ?_
  refine mj_L (L' := [(3, .int (0 : Int32)), (0, .ref 33), (1, .int x1), (2, .int x2)]) [0, 1, 2, 3] rfl ?_
  refine mj_L (L' := [(0, .ref 33), (1, .int x1), (2, .int x2), (3, .int (0 : Int32))]) [1, 2, 3, 0] rfl ?_
  exact T_Plans_servesAll_b2 (g := g) N e he N x1 x2 (0 : Int32) M
def F_Plans_fewestFor_b12 (N : Nat) : Nat → Int32 → Int32 → Int32 → Int32 → mj_M → Option (Int32 × mj_M)
  | 0, _, _, _, _, _ => none
  | n + 1, x1, x2, x3, x4, M =>
    (F_Coast_allTales M).bind (fun q2 =>
     if q2.1 < x4 then
     (some (x2, q2.2))
     else
     ((F_Integer_bitCount x4 q2.2).bind (fun q4 =>
     if x3 ≤ q4.1 then
     (F_Plans_fewestFor_b12 N n x1 x2 x3 (x4 + (1 : Int32)) q4.2)
     else
     ((F_Plans_servesAll N x4 x1 q4.2).bind (fun q6 =>
     if q6.1 = (0) then
     (F_Plans_fewestFor_b12 N n x1 x2 x3 (x4 + (1 : Int32)) q6.2)
     else
     (F_Plans_fewestFor_b12 N n x1 x4 q4.1 (x4 + (1 : Int32)) q6.2))))))
set_option maxRecDepth 20000 in
theorem T_Plans_fewestFor_b12 {g : mj_G} (N : Nat) (e : Nat) (he : 6 ≤ e) : ∀ (n : Nat) (x1 : Int32) (x2 : Int32) (x3 : Int32) (x4 : Int32) (M : mj_M), mj_X g (mj_qI g) "WinterTellers$Plans" c_Plans_fewestFor 6 (some .int) e 12 [(0, .ref 33), (1, .int x1), (2, .int x2), (3, .int x3), (4, .int x4)] [] M (F_Plans_fewestFor_b12 N n x1 x2 x3 x4 M) := by
  intro n
  induction n with
  | zero => intro x1 x2 x3 x4 M; exact mj_none
  | succ n ih =>
    intro x1 x2 x3 x4 M
    rw [F_Plans_fewestFor_b12]
    refine mj_iload (pc := 12) (i := 4) rfl dd_Plans_fewestFor_12 ?_
    refine mj_aload_n (pc := 14) (i := 0) rfl dd_Plans_fewestFor_14 ?_
    refine mj_getR (pc := 15) (b := 33) (k := 7) qf_Plans_24 sh_33 cl_7 rfl (by decide) (r := 13) rfl dd_Plans_fewestFor_15 ?_
    refine mj_callVI (pc := 18) (idx := 111) (b := 13) (As := []) (st := [.int x4]) sh_13 cl_0 ev_Coast_allTales ql_Plans_111 rfl (Nat.le_of_ble_eq_true rfl) (T_Coast_allTales (g := g) e (by omega) M) dd_Plans_fewestFor_18 (fun q2 hq2 => ?_)
    refine mj_icmp_gt (pc := 21) (tgt := 59) dd_Plans_fewestFor_21 rfl (fun h3 => ?_) (fun h3 => ?_)
    · refine mj_iload_n (pc := 59) (i := 2) rfl dd_Plans_fewestFor_59 ?_
      exact mj_iret dd_Plans_fewestFor_60 rfl rfl
    · refine mj_iload (pc := 24) (i := 4) rfl dd_Plans_fewestFor_24 ?_
      refine mj_callSI (pc := 26) (idx := 125) (As := [.int x4]) (st := []) es_Integer_bitCount ql_Plans_125 rfl (Nat.le_of_ble_eq_true rfl) (T_Integer_bitCount (g := g) e (by omega) x4 q2.2) dd_Plans_fewestFor_26 (fun q4 hq4 => ?_)
      refine mj_istore (pc := 29) (by decide) dd_Plans_fewestFor_29 ?_
      refine mj_L (L' := [(5, .int q4.1), (0, .ref 33), (1, .int x1), (2, .int x2), (3, .int x3), (4, .int x4)]) [0, 1, 2, 3, 4, 5] rfl ?_
      refine mj_iload (pc := 31) (i := 5) rfl dd_Plans_fewestFor_31 ?_
      refine mj_iload_n (pc := 33) (i := 3) rfl dd_Plans_fewestFor_33 ?_
      refine mj_icmp_ge (pc := 34) (tgt := 53) dd_Plans_fewestFor_34 rfl (fun h5 => ?_) (fun h5 => ?_)
      · refine mj_iinc (pc := 53) (i := 4) (z := (1 : Int32)) rfl (by decide) (by decide) dd_Plans_fewestFor_53 ?_
        refine mj_L (L' := [(4, .int (x4 + (1 : Int32))), (0, .ref 33), (1, .int x1), (2, .int x2), (3, .int x3)]) [0, 2, 3, 4, 5] rfl ?_
        refine mj_goto (pc := 56) (tgt := 12) dd_Plans_fewestFor_56 rfl ?_
        refine mj_L (L' := [(0, .ref 33), (1, .int x1), (2, .int x2), (3, .int x3), (4, .int (x4 + (1 : Int32)))]) [1, 2, 3, 4, 0] rfl ?_
        exact ih x1 x2 x3 (x4 + (1 : Int32)) q4.2
      · refine mj_aload_n (pc := 37) (i := 0) rfl dd_Plans_fewestFor_37 ?_
        refine mj_iload (pc := 38) (i := 4) rfl dd_Plans_fewestFor_38 ?_
        refine mj_iload_n (pc := 40) (i := 1) rfl dd_Plans_fewestFor_40 ?_
        refine mj_callVI (pc := 41) (idx := 130) (b := 33) (As := [.int x4, .int x1]) (st := []) sh_33 cl_7 ev_Plans_servesAll ql_Plans_130 rfl (Nat.le_of_ble_eq_true rfl) (T_Plans_servesAll (g := g) N e (by omega) x4 x1 q4.2) dd_Plans_fewestFor_41 (fun q6 hq6 => ?_)
        refine mj_if_eq (pc := 44) (tgt := 53) dd_Plans_fewestFor_44 rfl (fun h7 => ?_) (fun h7 => ?_)
        · refine mj_iinc (pc := 53) (i := 4) (z := (1 : Int32)) rfl (by decide) (by decide) dd_Plans_fewestFor_53 ?_
          refine mj_L (L' := [(4, .int (x4 + (1 : Int32))), (0, .ref 33), (1, .int x1), (2, .int x2), (3, .int x3)]) [0, 2, 3, 4, 5] rfl ?_
          refine mj_goto (pc := 56) (tgt := 12) dd_Plans_fewestFor_56 rfl ?_
          refine mj_L (L' := [(0, .ref 33), (1, .int x1), (2, .int x2), (3, .int x3), (4, .int (x4 + (1 : Int32)))]) [1, 2, 3, 4, 0] rfl ?_
          exact ih x1 x2 x3 (x4 + (1 : Int32)) q6.2
        · refine mj_iload (pc := 47) (i := 5) rfl dd_Plans_fewestFor_47 ?_
          refine mj_istore_n (pc := 49) (by decide) dd_Plans_fewestFor_49 ?_
          refine mj_L (L' := [(3, .int q4.1), (0, .ref 33), (1, .int x1), (4, .int x4)]) [0, 2, 3, 5] rfl ?_
          refine mj_iload (pc := 50) (i := 4) rfl dd_Plans_fewestFor_50 ?_
          refine mj_istore_n (pc := 52) (by decide) dd_Plans_fewestFor_52 ?_
          refine mj_L (L' := [(2, .int x4), (3, .int q4.1), (0, .ref 33), (1, .int x1), (4, .int x4)]) [0, 1, 2, 3, 4] rfl ?_
          refine mj_iinc (pc := 53) (i := 4) (z := (1 : Int32)) rfl (by decide) (by decide) dd_Plans_fewestFor_53 ?_
          refine mj_L (L' := [(4, .int (x4 + (1 : Int32))), (2, .int x4), (3, .int q4.1), (0, .ref 33), (1, .int x1)]) [0, 1, 2, 3, 4] rfl ?_
          refine mj_goto (pc := 56) (tgt := 12) dd_Plans_fewestFor_56 rfl ?_
          refine mj_L (L' := [(0, .ref 33), (1, .int x1), (2, .int x4), (3, .int q4.1), (4, .int (x4 + (1 : Int32)))]) [3, 4, 1, 2, 0] rfl ?_
          exact ih x1 x4 q4.1 (x4 + (1 : Int32)) q6.2
def F_Plans_fewestFor (N : Nat) (x1 : Int32) (M : mj_M) : Option (Int32 × mj_M) :=
    (F_Plans_weighAll N M).bind (fun q1 =>
     F_Plans_fewestFor_b12 N N x1 (-1 : Int32) (7 : Int32) (1 : Int32) q1)
set_option maxRecDepth 20000 in
theorem T_Plans_fewestFor {g : mj_G} (N : Nat) : ∀ d, 7 ≤ d → ∀ (x1 : Int32) (M : mj_M), mj_Mt g (mj_qI g) d y_Plans_fewestFor c_Plans_fewestFor 6 (some .int) [.ref 33, .int x1] M (F_Plans_fewestFor N x1 M) := by
  intro d hd x1 M
  obtain ⟨e, rfl⟩ : ∃ e, d = e + 1 := ⟨d - 1, by omega⟩
  have he : 6 ≤ e := by omega
  refine mj_met (by decide +kernel) (Nat.le_of_ble_eq_true rfl) ?_
  unfold F_Plans_fewestFor
  refine mj_L (L' := [(0, .ref 33), (1, .int x1)]) [0, 1] rfl ?_
  refine mj_aload_n (pc := 0) (i := 0) rfl dd_Plans_fewestFor_0 ?_
  refine mj_callVV (pc := 1) (idx := 75) (b := 33) (As := []) (st := []) sh_33 cl_7 ev_Plans_weighAll ql_Plans_75 rfl (Nat.le_of_ble_eq_true rfl) (T_Plans_weighAll (g := g) N e (by omega) M) dd_Plans_fewestFor_1 (fun q1 hq1 => ?_)
  refine mj_iconst (pc := 4) (v := (-1 : Int32)) (by decide) dd_Plans_fewestFor_4 ?_
  refine mj_istore_n (pc := 5) (by decide) dd_Plans_fewestFor_5 ?_
  refine mj_L (L' := [(2, .int (-1 : Int32)), (0, .ref 33), (1, .int x1)]) [0, 1, 2] rfl ?_
  refine mj_bipush (pc := 6) (v := (7 : Int32)) (by decide) dd_Plans_fewestFor_6 ?_
  refine mj_istore_n (pc := 8) (by decide) dd_Plans_fewestFor_8 ?_
  refine mj_L (L' := [(3, .int (7 : Int32)), (2, .int (-1 : Int32)), (0, .ref 33), (1, .int x1)]) [0, 1, 2, 3] rfl ?_
  refine mj_iconst (pc := 9) (v := (1 : Int32)) (by decide) dd_Plans_fewestFor_9 ?_
  refine mj_istore (pc := 10) (by decide) dd_Plans_fewestFor_10 ?_
  refine mj_L (L' := [(4, .int (1 : Int32)), (3, .int (7 : Int32)), (2, .int (-1 : Int32)), (0, .ref 33), (1, .int x1)]) [0, 1, 2, 3, 4] rfl ?_
  refine mj_L (L' := [(0, .ref 33), (1, .int x1), (2, .int (-1 : Int32)), (3, .int (7 : Int32)), (4, .int (1 : Int32))]) [3, 4, 2, 1, 0] rfl ?_
  exact T_Plans_fewestFor_b12 (g := g) N e he N x1 (-1 : Int32) (7 : Int32) (1 : Int32) q1
def F_W_fewest (N : Nat) (x1 : Int32) (M : mj_M) : Option (Int32 × mj_M) :=
    (F_Coast_isTold M).bind (fun q1 =>
     if q1.1 = (0) then
     (some ((-1 : Int32), q1.2))
     else
     (if x1 < (1 : Int32) then
     (some ((-1 : Int32), q1.2))
     else
     (if (20 : Int32) < x1 then
     (some ((-1 : Int32), q1.2))
     else
     ((F_Plans_fewestFor N x1 q1.2).bind (fun q5 =>
     some (q5.1, q5.2))))))
set_option maxRecDepth 20000 in
theorem T_W_fewest {g : mj_G} (N : Nat) : ∀ d, 8 ≤ d → ∀ (x1 : Int32) (M : mj_M), mj_Mt g (mj_qI g) d y_W_fewest c_W_fewest 2 (some .int) [.ref 0, .int x1] M (F_W_fewest N x1 M) := by
  intro d hd x1 M
  obtain ⟨e, rfl⟩ : ∃ e, d = e + 1 := ⟨d - 1, by omega⟩
  have he : 7 ≤ e := by omega
  refine mj_met (by decide +kernel) (Nat.le_of_ble_eq_true rfl) ?_
  unfold F_W_fewest
  refine mj_L (L' := [(0, .ref 0), (1, .int x1)]) [0, 1] rfl ?_
  refine mj_aload_n (pc := 0) (i := 0) rfl dd_W_fewest_0 ?_
  refine mj_getR (pc := 1) (b := 0) (k := 4) qf_W_42 sh_0 cl_11 rfl (by decide) (r := 13) rfl dd_W_fewest_1 ?_
  refine mj_callVI (pc := 4) (idx := 235) (b := 13) (As := []) (st := []) sh_13 cl_0 ev_Coast_isTold ql_W_235 rfl (Nat.le_of_ble_eq_true rfl) (T_Coast_isTold (g := g) e (by omega) M) dd_W_fewest_4 (fun q1 hq1 => ?_)
  refine mj_if_eq (pc := 7) (tgt := 32) dd_W_fewest_7 rfl (fun h2 => ?_) (fun h2 => ?_)
  · refine mj_iconst (pc := 32) (v := (-1 : Int32)) (by decide) dd_W_fewest_32 ?_
    exact mj_iret dd_W_fewest_33 rfl rfl
  · refine mj_iload_n (pc := 10) (i := 1) rfl dd_W_fewest_10 ?_
    refine mj_iconst (pc := 11) (v := (1 : Int32)) (by decide) dd_W_fewest_11 ?_
    refine mj_icmp_lt (pc := 12) (tgt := 32) dd_W_fewest_12 rfl (fun h3 => ?_) (fun h3 => ?_)
    · refine mj_iconst (pc := 32) (v := (-1 : Int32)) (by decide) dd_W_fewest_32 ?_
      exact mj_iret dd_W_fewest_33 rfl rfl
    · refine mj_iload_n (pc := 15) (i := 1) rfl dd_W_fewest_15 ?_
      refine mj_bipush (pc := 16) (v := (20 : Int32)) (by decide) dd_W_fewest_16 ?_
      refine mj_icmp_gt (pc := 18) (tgt := 32) dd_W_fewest_18 rfl (fun h4 => ?_) (fun h4 => ?_)
      · refine mj_iconst (pc := 32) (v := (-1 : Int32)) (by decide) dd_W_fewest_32 ?_
        exact mj_iret dd_W_fewest_33 rfl rfl
      · refine mj_aload_n (pc := 21) (i := 0) rfl dd_W_fewest_21 ?_
        refine mj_getR (pc := 22) (b := 0) (k := 9) qf_W_83 sh_0 cl_11 rfl (by decide) (r := 33) rfl dd_W_fewest_22 ?_
        refine mj_iload_n (pc := 25) (i := 1) rfl dd_W_fewest_25 ?_
        refine mj_callVI (pc := 26) (idx := 299) (b := 33) (As := [.int x1]) (st := []) sh_33 cl_7 ev_Plans_fewestFor ql_W_299 rfl (Nat.le_of_ble_eq_true rfl) (T_Plans_fewestFor (g := g) N e (by omega) x1 q1.2) dd_W_fewest_26 (fun q5 hq5 => ?_)
        refine mj_goto (pc := 29) (tgt := 33) dd_W_fewest_29 rfl ?_
        exact mj_iret dd_W_fewest_33 rfl rfl
def F_M_whereOf_b5 (N : Nat) : Nat → Int32 → Int32 → Int32 → Int32 → mj_M → Option (Int32 × mj_M)
  | 0, _, _, _, _, _ => none
  | n + 1, x1, x2, x3, x4, M =>
    if (M 48 25) ≤ x4 then
     (some (x3, M))
     else
     ((F_M_nightsNow N x4 x1 M).bind (fun q2 =>
     if q2.1 < x2 then
     (mj_lt (x3 ||| (0 : Int32)) (fun v4 =>
     F_M_whereOf_b5 N n x1 x2 v4 (x4 + (1 : Int32)) q2.2))
     else
     (mj_lt (x3 ||| ((1 : Int32) <<< (x4 &&& 31))) (fun v5 =>
     F_M_whereOf_b5 N n x1 x2 v5 (x4 + (1 : Int32)) q2.2))))
set_option maxRecDepth 20000 in
theorem T_M_whereOf_b5 {g : mj_G} (N : Nat) (e : Nat) (he : 6 ≤ e) : ∀ (n : Nat) (x1 : Int32) (x2 : Int32) (x3 : Int32) (x4 : Int32) (M : mj_M), mj_X g (mj_qI g) "WinterTellersModel" c_M_whereOf 5 (some .int) e 5 [(0, .ref 48), (1, .int x1), (2, .int x2), (3, .int x3), (4, .int x4)] [] M (F_M_whereOf_b5 N n x1 x2 x3 x4 M) := by
  intro n
  induction n with
  | zero => intro x1 x2 x3 x4 M; exact mj_none
  | succ n ih =>
    intro x1 x2 x3 x4 M
    rw [F_M_whereOf_b5]
    refine mj_iload (pc := 5) (i := 4) rfl dd_M_whereOf_5 ?_
    refine mj_aload_n (pc := 7) (i := 0) rfl dd_M_whereOf_7 ?_
    refine mj_getI (pc := 8) (b := 48) (k := 25) qf_M_242 sh_48 cl_12 rfl (by decide) rfl dd_M_whereOf_8 ?_
    refine mj_icmp_ge (pc := 11) (tgt := 42) dd_M_whereOf_11 rfl (fun h1 => ?_) (fun h1 => ?_)
    · refine mj_iload_n (pc := 42) (i := 3) rfl dd_M_whereOf_42 ?_
      exact mj_iret dd_M_whereOf_43 rfl rfl
    · refine mj_iload_n (pc := 14) (i := 3) rfl dd_M_whereOf_14 ?_
      refine mj_aload_n (pc := 15) (i := 0) rfl dd_M_whereOf_15 ?_
      refine mj_iload (pc := 16) (i := 4) rfl dd_M_whereOf_16 ?_
      refine mj_iload_n (pc := 18) (i := 1) rfl dd_M_whereOf_18 ?_
      refine mj_callVI (pc := 19) (idx := 284) (b := 48) (As := [.int x4, .int x1]) (st := [.int x3]) sh_48 cl_12 ev_M_nightsNow ql_M_284 rfl (Nat.le_of_ble_eq_true rfl) (T_M_nightsNow (g := g) N e (by omega) x4 x1 M) dd_M_whereOf_19 (fun q2 hq2 => ?_)
      refine mj_iload_n (pc := 22) (i := 2) rfl dd_M_whereOf_22 ?_
      refine mj_icmp_lt (pc := 23) (tgt := 33) dd_M_whereOf_23 rfl (fun h3 => ?_) (fun h3 => ?_)
      · refine mj_iconst (pc := 33) (v := (0 : Int32)) (by decide) dd_M_whereOf_33 ?_
        refine mj_ior (pc := 34) dd_M_whereOf_34 ?_
        refine mj_istore_nL (pc := 35) (by decide) dd_M_whereOf_35 (fun v4 _ => ?_)
        refine mj_L (L' := [(3, .int v4), (0, .ref 48), (1, .int x1), (2, .int x2), (4, .int x4)]) [0, 1, 2, 3, 4] rfl ?_
        refine mj_iinc (pc := 36) (i := 4) (z := (1 : Int32)) rfl (by decide) (by decide) dd_M_whereOf_36 ?_
        refine mj_L (L' := [(4, .int (x4 + (1 : Int32))), (3, .int v4), (0, .ref 48), (1, .int x1), (2, .int x2)]) [0, 1, 2, 3, 4] rfl ?_
        refine mj_goto (pc := 39) (tgt := 5) dd_M_whereOf_39 rfl ?_
        refine mj_L (L' := [(0, .ref 48), (1, .int x1), (2, .int x2), (3, .int v4), (4, .int (x4 + (1 : Int32)))]) [2, 3, 4, 1, 0] rfl ?_
        exact ih x1 x2 v4 (x4 + (1 : Int32)) q2.2
      · refine mj_iconst (pc := 26) (v := (1 : Int32)) (by decide) dd_M_whereOf_26 ?_
        refine mj_iload (pc := 27) (i := 4) rfl dd_M_whereOf_27 ?_
        refine mj_ishl (pc := 29) dd_M_whereOf_29 ?_
        refine mj_goto (pc := 30) (tgt := 34) dd_M_whereOf_30 rfl ?_
        refine mj_ior (pc := 34) dd_M_whereOf_34 ?_
        refine mj_istore_nL (pc := 35) (by decide) dd_M_whereOf_35 (fun v5 _ => ?_)
        refine mj_L (L' := [(3, .int v5), (0, .ref 48), (1, .int x1), (2, .int x2), (4, .int x4)]) [0, 1, 2, 3, 4] rfl ?_
        refine mj_iinc (pc := 36) (i := 4) (z := (1 : Int32)) rfl (by decide) (by decide) dd_M_whereOf_36 ?_
        refine mj_L (L' := [(4, .int (x4 + (1 : Int32))), (3, .int v5), (0, .ref 48), (1, .int x1), (2, .int x2)]) [0, 1, 2, 3, 4] rfl ?_
        refine mj_goto (pc := 39) (tgt := 5) dd_M_whereOf_39 rfl ?_
        refine mj_L (L' := [(0, .ref 48), (1, .int x1), (2, .int x2), (3, .int v5), (4, .int (x4 + (1 : Int32)))]) [2, 3, 4, 1, 0] rfl ?_
        exact ih x1 x2 v5 (x4 + (1 : Int32)) q2.2
def F_M_whereOf (N : Nat) (x1 : Int32) (x2 : Int32) (M : mj_M) : Option (Int32 × mj_M) :=
    F_M_whereOf_b5 N N x1 x2 (0 : Int32) (0 : Int32) M
set_option maxRecDepth 20000 in
theorem T_M_whereOf {g : mj_G} (N : Nat) : ∀ d, 7 ≤ d → ∀ (x1 : Int32) (x2 : Int32) (M : mj_M), mj_Mt g (mj_qI g) d y_M_whereOf c_M_whereOf 5 (some .int) [.ref 48, .int x1, .int x2] M (F_M_whereOf N x1 x2 M) := by
  intro d hd x1 x2 M
  obtain ⟨e, rfl⟩ : ∃ e, d = e + 1 := ⟨d - 1, by omega⟩
  have he : 6 ≤ e := by omega
  refine mj_met (by decide +kernel) (Nat.le_of_ble_eq_true rfl) ?_
  unfold F_M_whereOf
  refine mj_L (L' := [(0, .ref 48), (1, .int x1), (2, .int x2)]) [0, 1, 2] rfl ?_
  refine mj_iconst (pc := 0) (v := (0 : Int32)) (by decide) dd_M_whereOf_0 ?_
  refine mj_istore_n (pc := 1) (by decide) dd_M_whereOf_1 ?_
  refine mj_L (L' := [(3, .int (0 : Int32)), (0, .ref 48), (1, .int x1), (2, .int x2)]) [0, 1, 2, 3] rfl ?_
  refine mj_iconst (pc := 2) (v := (0 : Int32)) (by decide) dd_M_whereOf_2 ?_
  refine mj_istore (pc := 3) (by decide) dd_M_whereOf_3 ?_
  refine mj_L (L' := [(4, .int (0 : Int32)), (3, .int (0 : Int32)), (0, .ref 48), (1, .int x1), (2, .int x2)]) [0, 1, 2, 3, 4] rfl ?_
  refine mj_L (L' := [(0, .ref 48), (1, .int x1), (2, .int x2), (3, .int (0 : Int32)), (4, .int (0 : Int32))]) [2, 3, 4, 1, 0] rfl ?_
  exact T_M_whereOf_b5 (g := g) N e he N x1 x2 (0 : Int32) (0 : Int32) M
def F_M_fewest_b97 (N : Nat) (k23 : Int32 → Int32 → Int32 → mj_M → Option (Int32 × mj_M)) (x1 : Int32) (x2 : Int32) (x3 : Int32) (s0 : Int32) (M : mj_M) : Option (Int32 × mj_M) :=
    if s0 = (0) then
     (k23 x1 x2 (x3 + (1 : Int32)) M)
     else
     (if x2 = (-1 : Int32) then
     (k23 x1 x3 (x3 + (1 : Int32)) M)
     else
     ((F_Integer_bitCount x3 M).bind (fun q14 =>
     (F_Integer_bitCount x2 q14.2).bind (fun q15 =>
     if q15.1 ≤ q14.1 then
     (k23 x1 x2 (x3 + (1 : Int32)) q15.2)
     else
     (k23 x1 x3 (x3 + (1 : Int32)) q15.2)))))
set_option maxRecDepth 20000 in
theorem T_M_fewest_b97 {g : mj_G} (N : Nat) (e : Nat) (he : 7 ≤ e) (k23 : Int32 → Int32 → Int32 → mj_M → Option (Int32 × mj_M)) (hk23 : ∀ (x1 : Int32) (x2 : Int32) (x3 : Int32) (M : mj_M), mj_X g (mj_qI g) "WinterTellersModel" c_M_fewest 6 (some .int) e 23 [(0, .ref 48), (1, .int x1), (2, .int x2), (3, .int x3)] [] M (k23 x1 x2 x3 M)) (x1 : Int32) (x2 : Int32) (x3 : Int32) (s0 : Int32) (M : mj_M) : mj_X g (mj_qI g) "WinterTellersModel" c_M_fewest 6 (some .int) e 97 [(0, .ref 48), (1, .int x1), (2, .int x2), (3, .int x3)] [.int s0] M (F_M_fewest_b97 N k23 x1 x2 x3 s0 M) := by
  unfold F_M_fewest_b97
  refine mj_istore (pc := 97) (by decide) dd_M_fewest_97 ?_
  refine mj_L (L' := [(5, .int s0), (0, .ref 48), (1, .int x1), (2, .int x2), (3, .int x3)]) [0, 1, 2, 3, 4] rfl ?_
  refine mj_iload (pc := 99) (i := 5) rfl dd_M_fewest_99 ?_
  refine mj_if_eq (pc := 101) (tgt := 124) dd_M_fewest_101 rfl (fun h12 => ?_) (fun h12 => ?_)
  · refine mj_iload_n (pc := 124) (i := 2) rfl dd_M_fewest_124 ?_
    refine mj_istore_n (pc := 125) (by decide) dd_M_fewest_125 ?_
    refine mj_L (L' := [(2, .int x2), (0, .ref 48), (1, .int x1), (3, .int x3)]) [0, 2, 3, 4] rfl ?_
    refine mj_iinc (pc := 126) (i := 3) (z := (1 : Int32)) rfl (by decide) (by decide) dd_M_fewest_126 ?_
    refine mj_L (L' := [(3, .int (x3 + (1 : Int32))), (2, .int x2), (0, .ref 48), (1, .int x1)]) [0, 1, 2, 3] rfl ?_
    refine mj_goto (pc := 129) (tgt := 23) dd_M_fewest_129 rfl ?_
    refine mj_L (L' := [(0, .ref 48), (1, .int x1), (2, .int x2), (3, .int (x3 + (1 : Int32)))]) [2, 3, 1, 0] rfl ?_
    exact hk23 x1 x2 (x3 + (1 : Int32)) M
  · refine mj_iload_n (pc := 104) (i := 2) rfl dd_M_fewest_104 ?_
    refine mj_iconst (pc := 105) (v := (-1 : Int32)) (by decide) dd_M_fewest_105 ?_
    refine mj_icmp_eq (pc := 106) (tgt := 120) dd_M_fewest_106 rfl (fun h13 => ?_) (fun h13 => ?_)
    · refine mj_iload_n (pc := 120) (i := 3) rfl dd_M_fewest_120 ?_
      refine mj_goto (pc := 121) (tgt := 125) dd_M_fewest_121 rfl ?_
      refine mj_istore_n (pc := 125) (by decide) dd_M_fewest_125 ?_
      refine mj_L (L' := [(2, .int x3), (0, .ref 48), (1, .int x1), (3, .int x3)]) [0, 2, 3, 4] rfl ?_
      refine mj_iinc (pc := 126) (i := 3) (z := (1 : Int32)) rfl (by decide) (by decide) dd_M_fewest_126 ?_
      refine mj_L (L' := [(3, .int (x3 + (1 : Int32))), (2, .int x3), (0, .ref 48), (1, .int x1)]) [0, 1, 2, 3] rfl ?_
      refine mj_goto (pc := 129) (tgt := 23) dd_M_fewest_129 rfl ?_
      refine mj_L (L' := [(0, .ref 48), (1, .int x1), (2, .int x3), (3, .int (x3 + (1 : Int32)))]) [2, 3, 1, 0] rfl ?_
      exact hk23 x1 x3 (x3 + (1 : Int32)) M
    · refine mj_iload_n (pc := 109) (i := 3) rfl dd_M_fewest_109 ?_
      refine mj_callSI (pc := 110) (idx := 330) (As := [.int x3]) (st := []) es_Integer_bitCount ql_M_330 rfl (Nat.le_of_ble_eq_true rfl) (T_Integer_bitCount (g := g) e (by omega) x3 M) dd_M_fewest_110 (fun q14 hq14 => ?_)
      refine mj_iload_n (pc := 113) (i := 2) rfl dd_M_fewest_113 ?_
      refine mj_callSI (pc := 114) (idx := 330) (As := [.int x2]) (st := [.int q14.1]) es_Integer_bitCount ql_M_330 rfl (Nat.le_of_ble_eq_true rfl) (T_Integer_bitCount (g := g) e (by omega) x2 q14.2) dd_M_fewest_114 (fun q15 hq15 => ?_)
      refine mj_icmp_ge (pc := 117) (tgt := 124) dd_M_fewest_117 rfl (fun h16 => ?_) (fun h16 => ?_)
      · refine mj_iload_n (pc := 124) (i := 2) rfl dd_M_fewest_124 ?_
        refine mj_istore_n (pc := 125) (by decide) dd_M_fewest_125 ?_
        refine mj_L (L' := [(2, .int x2), (0, .ref 48), (1, .int x1), (3, .int x3)]) [0, 2, 3, 4] rfl ?_
        refine mj_iinc (pc := 126) (i := 3) (z := (1 : Int32)) rfl (by decide) (by decide) dd_M_fewest_126 ?_
        refine mj_L (L' := [(3, .int (x3 + (1 : Int32))), (2, .int x2), (0, .ref 48), (1, .int x1)]) [0, 1, 2, 3] rfl ?_
        refine mj_goto (pc := 129) (tgt := 23) dd_M_fewest_129 rfl ?_
        refine mj_L (L' := [(0, .ref 48), (1, .int x1), (2, .int x2), (3, .int (x3 + (1 : Int32)))]) [2, 3, 1, 0] rfl ?_
        exact hk23 x1 x2 (x3 + (1 : Int32)) q15.2
      · refine mj_iload_n (pc := 120) (i := 3) rfl dd_M_fewest_120 ?_
        refine mj_goto (pc := 121) (tgt := 125) dd_M_fewest_121 rfl ?_
        refine mj_istore_n (pc := 125) (by decide) dd_M_fewest_125 ?_
        refine mj_L (L' := [(2, .int x3), (0, .ref 48), (1, .int x1), (3, .int x3)]) [0, 2, 3, 4] rfl ?_
        refine mj_iinc (pc := 126) (i := 3) (z := (1 : Int32)) rfl (by decide) (by decide) dd_M_fewest_126 ?_
        refine mj_L (L' := [(3, .int (x3 + (1 : Int32))), (2, .int x3), (0, .ref 48), (1, .int x1)]) [0, 1, 2, 3] rfl ?_
        refine mj_goto (pc := 129) (tgt := 23) dd_M_fewest_129 rfl ?_
        refine mj_L (L' := [(0, .ref 48), (1, .int x1), (2, .int x3), (3, .int (x3 + (1 : Int32)))]) [2, 3, 1, 0] rfl ?_
        exact hk23 x1 x3 (x3 + (1 : Int32)) q15.2
def F_M_fewest_b39 (N : Nat) (k23 : Int32 → Int32 → Int32 → mj_M → Option (Int32 × mj_M)) : Nat → Int32 → Int32 → Int32 → Int32 → Int32 → mj_M → Option (Int32 × mj_M)
  | 0, _, _, _, _, _, _ => none
  | n + 1, x1, x2, x3, x4, x5, M =>
    if (M 48 26) ≤ x5 then
     (if x4 = (((1 : Int32) <<< ((M 48 25) &&& 31)) - (1 : Int32)) then
     (F_M_fewest_b97 N k23 x1 x2 x3 (1 : Int32) M)
     else
     (F_M_fewest_b97 N k23 x1 x2 x3 (0 : Int32) M))
     else
     ((F_M_has x3 x5 M).bind (fun q7 =>
     if q7.1 = (0) then
     (mj_lt (x4 ||| (0 : Int32)) (fun v9 =>
     F_M_fewest_b39 N k23 n x1 x2 x3 v9 (x5 + (1 : Int32)) q7.2))
     else
     ((F_M_whereOf N x5 x1 q7.2).bind (fun q10 =>
     mj_lt (x4 ||| q10.1) (fun v11 =>
     F_M_fewest_b39 N k23 n x1 x2 x3 v11 (x5 + (1 : Int32)) q10.2)))))
set_option maxRecDepth 20000 in
theorem T_M_fewest_b39 {g : mj_G} (N : Nat) (e : Nat) (he : 7 ≤ e) (k23 : Int32 → Int32 → Int32 → mj_M → Option (Int32 × mj_M)) (hk23 : ∀ (x1 : Int32) (x2 : Int32) (x3 : Int32) (M : mj_M), mj_X g (mj_qI g) "WinterTellersModel" c_M_fewest 6 (some .int) e 23 [(0, .ref 48), (1, .int x1), (2, .int x2), (3, .int x3)] [] M (k23 x1 x2 x3 M)) : ∀ (n : Nat) (x1 : Int32) (x2 : Int32) (x3 : Int32) (x4 : Int32) (x5 : Int32) (M : mj_M), mj_X g (mj_qI g) "WinterTellersModel" c_M_fewest 6 (some .int) e 39 [(0, .ref 48), (1, .int x1), (2, .int x2), (3, .int x3), (4, .int x4), (5, .int x5)] [] M (F_M_fewest_b39 N k23 n x1 x2 x3 x4 x5 M) := by
  intro n
  induction n with
  | zero => intro x1 x2 x3 x4 x5 M; exact mj_none
  | succ n ih =>
    intro x1 x2 x3 x4 x5 M
    rw [F_M_fewest_b39]
    refine mj_iload (pc := 39) (i := 5) rfl dd_M_fewest_39 ?_
    refine mj_aload_n (pc := 41) (i := 0) rfl dd_M_fewest_41 ?_
    refine mj_getI (pc := 42) (b := 48) (k := 26) qf_M_245 sh_48 cl_12 rfl (by decide) rfl dd_M_fewest_42 ?_
    refine mj_icmp_ge (pc := 45) (tgt := 79) dd_M_fewest_45 rfl (fun h5 => ?_) (fun h5 => ?_)
    · refine mj_iload (pc := 79) (i := 4) rfl dd_M_fewest_79 ?_
      refine mj_iconst (pc := 81) (v := (1 : Int32)) (by decide) dd_M_fewest_81 ?_
      refine mj_aload_n (pc := 82) (i := 0) rfl dd_M_fewest_82 ?_
      refine mj_getI (pc := 83) (b := 48) (k := 25) qf_M_242 sh_48 cl_12 rfl (by decide) rfl dd_M_fewest_83 ?_
      refine mj_ishl (pc := 86) dd_M_fewest_86 ?_
      refine mj_iconst (pc := 87) (v := (1 : Int32)) (by decide) dd_M_fewest_87 ?_
      refine mj_isub (pc := 88) dd_M_fewest_88 ?_
      refine mj_icmp_ne (pc := 89) (tgt := 96) dd_M_fewest_89 rfl (fun h6 => ?_) (fun h6 => ?_)
      · refine mj_iconst (pc := 92) (v := (1 : Int32)) (by decide) dd_M_fewest_92 ?_
        refine mj_goto (pc := 93) (tgt := 97) dd_M_fewest_93 rfl ?_
        refine mj_L (L' := [(0, .ref 48), (1, .int x1), (2, .int x2), (3, .int x3)]) [0, 1, 2, 3] rfl ?_
        exact T_M_fewest_b97 (g := g) N e he k23 hk23 x1 x2 x3 (1 : Int32) M
      · refine mj_iconst (pc := 96) (v := (0 : Int32)) (by decide) dd_M_fewest_96 ?_
        refine mj_L (L' := [(0, .ref 48), (1, .int x1), (2, .int x2), (3, .int x3)]) [0, 1, 2, 3] rfl ?_
        exact T_M_fewest_b97 (g := g) N e he k23 hk23 x1 x2 x3 (0 : Int32) M
    · refine mj_iload (pc := 48) (i := 4) rfl dd_M_fewest_48 ?_
      refine mj_iload_n (pc := 50) (i := 3) rfl dd_M_fewest_50 ?_
      refine mj_iload (pc := 51) (i := 5) rfl dd_M_fewest_51 ?_
      refine mj_callSI (pc := 53) (idx := 216) (As := [.int x3, .int x5]) (st := [.int x4]) es_M_has ql_M_216 rfl (Nat.le_of_ble_eq_true rfl) (T_M_has (g := g) e (by omega) x3 x5 M) dd_M_fewest_53 (fun q7 hq7 => ?_)
      refine mj_if_eq (pc := 56) (tgt := 69) dd_M_fewest_56 rfl (fun h8 => ?_) (fun h8 => ?_)
      · refine mj_iconst (pc := 69) (v := (0 : Int32)) (by decide) dd_M_fewest_69 ?_
        refine mj_ior (pc := 70) dd_M_fewest_70 ?_
        refine mj_istoreL (pc := 71) (by decide) dd_M_fewest_71 (fun v9 _ => ?_)
        refine mj_L (L' := [(4, .int v9), (0, .ref 48), (1, .int x1), (2, .int x2), (3, .int x3), (5, .int x5)]) [0, 1, 2, 3, 4, 5] rfl ?_
        refine mj_iinc (pc := 73) (i := 5) (z := (1 : Int32)) rfl (by decide) (by decide) dd_M_fewest_73 ?_
        refine mj_L (L' := [(5, .int (x5 + (1 : Int32))), (4, .int v9), (0, .ref 48), (1, .int x1), (2, .int x2), (3, .int x3)]) [0, 1, 2, 3, 4, 5] rfl ?_
        refine mj_goto (pc := 76) (tgt := 39) dd_M_fewest_76 rfl ?_
        refine mj_L (L' := [(0, .ref 48), (1, .int x1), (2, .int x2), (3, .int x3), (4, .int v9), (5, .int (x5 + (1 : Int32)))]) [2, 3, 4, 5, 1, 0] rfl ?_
        exact ih x1 x2 x3 v9 (x5 + (1 : Int32)) q7.2
      · refine mj_aload_n (pc := 59) (i := 0) rfl dd_M_fewest_59 ?_
        refine mj_iload (pc := 60) (i := 5) rfl dd_M_fewest_60 ?_
        refine mj_iload_n (pc := 62) (i := 1) rfl dd_M_fewest_62 ?_
        refine mj_callVI (pc := 63) (idx := 371) (b := 48) (As := [.int x5, .int x1]) (st := [.int x4]) sh_48 cl_12 ev_M_whereOf ql_M_371 rfl (Nat.le_of_ble_eq_true rfl) (T_M_whereOf (g := g) N e (by omega) x5 x1 q7.2) dd_M_fewest_63 (fun q10 hq10 => ?_)
        refine mj_goto (pc := 66) (tgt := 70) dd_M_fewest_66 rfl ?_
        refine mj_ior (pc := 70) dd_M_fewest_70 ?_
        refine mj_istoreL (pc := 71) (by decide) dd_M_fewest_71 (fun v11 _ => ?_)
        refine mj_L (L' := [(4, .int v11), (0, .ref 48), (1, .int x1), (2, .int x2), (3, .int x3), (5, .int x5)]) [0, 1, 2, 3, 4, 5] rfl ?_
        refine mj_iinc (pc := 73) (i := 5) (z := (1 : Int32)) rfl (by decide) (by decide) dd_M_fewest_73 ?_
        refine mj_L (L' := [(5, .int (x5 + (1 : Int32))), (4, .int v11), (0, .ref 48), (1, .int x1), (2, .int x2), (3, .int x3)]) [0, 1, 2, 3, 4, 5] rfl ?_
        refine mj_goto (pc := 76) (tgt := 39) dd_M_fewest_76 rfl ?_
        refine mj_L (L' := [(0, .ref 48), (1, .int x1), (2, .int x2), (3, .int x3), (4, .int v11), (5, .int (x5 + (1 : Int32)))]) [2, 3, 4, 5, 1, 0] rfl ?_
        exact ih x1 x2 x3 v11 (x5 + (1 : Int32)) q10.2
def F_M_fewest_b23 (N : Nat) : Nat → Int32 → Int32 → Int32 → mj_M → Option (Int32 × mj_M)
  | 0, _, _, _, _ => none
  | n + 1, x1, x2, x3, M =>
    if ((1 : Int32) <<< ((M 48 26) &&& 31)) ≤ x3 then
     (some (x2, M))
     else
     (F_M_fewest_b39 N (F_M_fewest_b23 N n) N x1 x2 x3 (0 : Int32) (0 : Int32) M)
set_option maxRecDepth 20000 in
theorem T_M_fewest_b23 {g : mj_G} (N : Nat) (e : Nat) (he : 7 ≤ e) : ∀ (n : Nat) (x1 : Int32) (x2 : Int32) (x3 : Int32) (M : mj_M), mj_X g (mj_qI g) "WinterTellersModel" c_M_fewest 6 (some .int) e 23 [(0, .ref 48), (1, .int x1), (2, .int x2), (3, .int x3)] [] M (F_M_fewest_b23 N n x1 x2 x3 M) := by
  intro n
  induction n with
  | zero => intro x1 x2 x3 M; exact mj_none
  | succ n ih =>
    intro x1 x2 x3 M
    rw [F_M_fewest_b23]
    refine mj_iload_n (pc := 23) (i := 3) rfl dd_M_fewest_23 ?_
    refine mj_iconst (pc := 24) (v := (1 : Int32)) (by decide) dd_M_fewest_24 ?_
    refine mj_aload_n (pc := 25) (i := 0) rfl dd_M_fewest_25 ?_
    refine mj_getI (pc := 26) (b := 48) (k := 26) qf_M_245 sh_48 cl_12 rfl (by decide) rfl dd_M_fewest_26 ?_
    refine mj_ishl (pc := 29) dd_M_fewest_29 ?_
    refine mj_icmp_ge (pc := 30) (tgt := 132) dd_M_fewest_30 rfl (fun h4 => ?_) (fun h4 => ?_)
    · refine mj_iload_n (pc := 132) (i := 2) rfl dd_M_fewest_132 ?_
      exact mj_iret dd_M_fewest_133 rfl rfl
    · refine mj_iconst (pc := 33) (v := (0 : Int32)) (by decide) dd_M_fewest_33 ?_
      refine mj_istore (pc := 34) (by decide) dd_M_fewest_34 ?_
      refine mj_L (L' := [(4, .int (0 : Int32)), (0, .ref 48), (1, .int x1), (2, .int x2), (3, .int x3)]) [0, 1, 2, 3, 4] rfl ?_
      refine mj_iconst (pc := 36) (v := (0 : Int32)) (by decide) dd_M_fewest_36 ?_
      refine mj_istore (pc := 37) (by decide) dd_M_fewest_37 ?_
      refine mj_L (L' := [(5, .int (0 : Int32)), (4, .int (0 : Int32)), (0, .ref 48), (1, .int x1), (2, .int x2), (3, .int x3)]) [0, 1, 2, 3, 4, 5] rfl ?_
      refine mj_L (L' := [(0, .ref 48), (1, .int x1), (2, .int x2), (3, .int x3), (4, .int (0 : Int32)), (5, .int (0 : Int32))]) [2, 3, 4, 5, 1, 0] rfl ?_
      exact T_M_fewest_b39 (g := g) N e he (F_M_fewest_b23 N n) ih N x1 x2 x3 (0 : Int32) (0 : Int32) M
def F_M_fewest (N : Nat) (x1 : Int32) (M : mj_M) : Option (Int32 × mj_M) :=
    if (M 48 25) = (0) then
     (some ((-1 : Int32), M))
     else
     ((F_M_in x1 (1 : Int32) (20 : Int32) M).bind (fun q2 =>
     if q2.1 = (0) then
     (some ((-1 : Int32), q2.2))
     else
     (F_M_fewest_b23 N N x1 (-1 : Int32) (1 : Int32) q2.2)))
set_option maxRecDepth 20000 in
theorem T_M_fewest {g : mj_G} (N : Nat) : ∀ d, 8 ≤ d → ∀ (x1 : Int32) (M : mj_M), mj_Mt g (mj_qI g) d y_M_fewest c_M_fewest 6 (some .int) [.ref 48, .int x1] M (F_M_fewest N x1 M) := by
  intro d hd x1 M
  obtain ⟨e, rfl⟩ : ∃ e, d = e + 1 := ⟨d - 1, by omega⟩
  have he : 7 ≤ e := by omega
  refine mj_met (by decide +kernel) (Nat.le_of_ble_eq_true rfl) ?_
  unfold F_M_fewest
  refine mj_L (L' := [(0, .ref 48), (1, .int x1)]) [0, 1] rfl ?_
  refine mj_aload_n (pc := 0) (i := 0) rfl dd_M_fewest_0 ?_
  refine mj_getI (pc := 1) (b := 48) (k := 25) qf_M_242 sh_48 cl_12 rfl (by decide) rfl dd_M_fewest_1 ?_
  refine mj_if_eq (pc := 4) (tgt := 17) dd_M_fewest_4 rfl (fun h1 => ?_) (fun h1 => ?_)
  · refine mj_iconst (pc := 17) (v := (-1 : Int32)) (by decide) dd_M_fewest_17 ?_
    exact mj_iret dd_M_fewest_18 rfl rfl
  · refine mj_iload_n (pc := 7) (i := 1) rfl dd_M_fewest_7 ?_
    refine mj_iconst (pc := 8) (v := (1 : Int32)) (by decide) dd_M_fewest_8 ?_
    refine mj_bipush (pc := 9) (v := (20 : Int32)) (by decide) dd_M_fewest_9 ?_
    refine mj_callSI (pc := 11) (idx := 205) (As := [.int x1, .int (1 : Int32), .int (20 : Int32)]) (st := []) es_M_in ql_M_205 rfl (Nat.le_of_ble_eq_true rfl) (T_M_in (g := g) e (by omega) x1 (1 : Int32) (20 : Int32) M) dd_M_fewest_11 (fun q2 hq2 => ?_)
    refine mj_if_ne (pc := 14) (tgt := 19) dd_M_fewest_14 rfl (fun h3 => ?_) (fun h3 => ?_)
    · refine mj_iconst (pc := 17) (v := (-1 : Int32)) (by decide) dd_M_fewest_17 ?_
      exact mj_iret dd_M_fewest_18 rfl rfl
    · refine mj_iconst (pc := 19) (v := (-1 : Int32)) (by decide) dd_M_fewest_19 ?_
      refine mj_istore_n (pc := 20) (by decide) dd_M_fewest_20 ?_
      refine mj_L (L' := [(2, .int (-1 : Int32)), (0, .ref 48), (1, .int x1)]) [0, 1, 2] rfl ?_
      refine mj_iconst (pc := 21) (v := (1 : Int32)) (by decide) dd_M_fewest_21 ?_
      refine mj_istore_n (pc := 22) (by decide) dd_M_fewest_22 ?_
      refine mj_L (L' := [(3, .int (1 : Int32)), (2, .int (-1 : Int32)), (0, .ref 48), (1, .int x1)]) [0, 1, 2, 3] rfl ?_
      refine mj_L (L' := [(0, .ref 48), (1, .int x1), (2, .int (-1 : Int32)), (3, .int (1 : Int32))]) [2, 3, 1, 0] rfl ?_
      exact T_M_fewest_b23 (g := g) N e he N x1 (-1 : Int32) (1 : Int32) q2.2
def F_Guess_add (x1 : Int32) (x2 : Int32) (x3 : Int32) (M : mj_M) : Option (mj_M) :=
    if (10 : Int32) ≤ (M 29 0) then
     (some M)
     else
     (mj_ck (M 29 0) 10 (mj_lt (mj_u M 30 (M 29 0).toNatClampNeg x1) (fun M2 =>
     mj_ck (M2 29 0) 10 (mj_lt (mj_u M2 31 (M2 29 0).toNatClampNeg x2) (fun M3 =>
     mj_ck (M3 29 0) 10 (mj_lt (mj_u M3 32 (M3 29 0).toNatClampNeg (vp_nar .boolean x3)) (fun M4 =>
     mj_lt (mj_u M4 29 0 ((M4 29 0) + (1 : Int32))) (fun M5 =>
     some M5))))))))
set_option maxRecDepth 20000 in
theorem T_Guess_add {g : mj_G} : ∀ d, 1 ≤ d → ∀ (x1 : Int32) (x2 : Int32) (x3 : Int32) (M : mj_M), mj_Mt g (mj_qV g) d y_Guess_add c_Guess_add 4 none [.ref 29, .int x1, .int x2, .int x3] M (F_Guess_add x1 x2 x3 M) := by
  intro d hd x1 x2 x3 M
  obtain ⟨e, rfl⟩ : ∃ e, d = e + 1 := ⟨d - 1, by omega⟩
  have he : 0 ≤ e := by omega
  refine mj_met (by decide +kernel) (Nat.le_of_ble_eq_true rfl) ?_
  unfold F_Guess_add
  refine mj_L (L' := [(0, .ref 29), (1, .int x1), (2, .int x2), (3, .int x3)]) [0, 1, 2, 3] rfl ?_
  refine mj_aload_n (pc := 0) (i := 0) rfl dd_Guess_add_0 ?_
  refine mj_getI (pc := 1) (b := 29) (k := 0) qf_Guess_30 sh_29 cl_3 rfl (by decide) rfl dd_Guess_add_1 ?_
  refine mj_bipush (pc := 4) (v := (10 : Int32)) (by decide) dd_Guess_add_4 ?_
  refine mj_icmp_ge (pc := 6) (tgt := 49) dd_Guess_add_6 rfl (fun h1 => ?_) (fun h1 => ?_)
  · exact mj_vret dd_Guess_add_49 rfl rfl
  · refine mj_aload_n (pc := 9) (i := 0) rfl dd_Guess_add_9 ?_
    refine mj_getR (pc := 10) (b := 29) (k := 3) qf_Guess_11 sh_29 cl_3 rfl (by decide) (r := 30) rfl dd_Guess_add_10 ?_
    refine mj_aload_n (pc := 13) (i := 0) rfl dd_Guess_add_13 ?_
    refine mj_getI (pc := 14) (b := 29) (k := 0) qf_Guess_30 sh_29 cl_3 rfl (by decide) rfl dd_Guess_add_14 ?_
    refine mj_iload_n (pc := 17) (i := 1) rfl dd_Guess_add_17 ?_
    refine mj_iast (pc := 18) sh_30 dd_Guess_add_18 (fun M2 _ => ?_)
    refine mj_aload_n (pc := 19) (i := 0) rfl dd_Guess_add_19 ?_
    refine mj_getR (pc := 20) (b := 29) (k := 4) qf_Guess_15 sh_29 cl_3 rfl (by decide) (r := 31) rfl dd_Guess_add_20 ?_
    refine mj_aload_n (pc := 23) (i := 0) rfl dd_Guess_add_23 ?_
    refine mj_getI (pc := 24) (b := 29) (k := 0) qf_Guess_30 sh_29 cl_3 rfl (by decide) rfl dd_Guess_add_24 ?_
    refine mj_iload_n (pc := 27) (i := 2) rfl dd_Guess_add_27 ?_
    refine mj_iast (pc := 28) sh_31 dd_Guess_add_28 (fun M3 _ => ?_)
    refine mj_aload_n (pc := 29) (i := 0) rfl dd_Guess_add_29 ?_
    refine mj_getR (pc := 30) (b := 29) (k := 5) qf_Guess_18 sh_29 cl_3 rfl (by decide) (r := 32) rfl dd_Guess_add_30 ?_
    refine mj_aload_n (pc := 33) (i := 0) rfl dd_Guess_add_33 ?_
    refine mj_getI (pc := 34) (b := 29) (k := 0) qf_Guess_30 sh_29 cl_3 rfl (by decide) rfl dd_Guess_add_34 ?_
    refine mj_iload_n (pc := 37) (i := 3) rfl dd_Guess_add_37 ?_
    refine mj_zast (pc := 38) sh_32 dd_Guess_add_38 (fun M4 _ => ?_)
    refine mj_aload_n (pc := 39) (i := 0) rfl dd_Guess_add_39 ?_
    refine mj_dup (pc := 40) rfl dd_Guess_add_40 ?_
    refine mj_getI (pc := 41) (b := 29) (k := 0) qf_Guess_30 sh_29 cl_3 rfl (by decide) rfl dd_Guess_add_41 ?_
    refine mj_iconst (pc := 44) (v := (1 : Int32)) (by decide) dd_Guess_add_44 ?_
    refine mj_iadd (pc := 45) dd_Guess_add_45 ?_
    refine mj_putI (pc := 46) (b := 29) (k := 0) qf_Guess_30 sh_29 cl_3 rfl (by decide) (by decide) rfl rfl rfl dd_Guess_add_46 (fun M5 _ => ?_)
    exact mj_vret dd_Guess_add_49 rfl rfl
def F_W_seen (x1 : Int32) (x2 : Int32) (x3 : Int32) (M : mj_M) : Option (Int32 × mj_M) :=
    (F_Coast_hasHouse x1 M).bind (fun q1 =>
     if q1.1 = (0) then
     (some ((-1 : Int32), q1.2))
     else
     (if x2 < (0) then
     (some ((-1 : Int32), q1.2))
     else
     (if (20 : Int32) < x2 then
     (some ((-1 : Int32), q1.2))
     else
     (if (q1.2 29 0) < (10 : Int32) then
     ((F_Guess_add x1 x2 x3 q1.2).bind (fun q6 =>
     some (q6 29 0, q6)))
     else
     (some ((-1 : Int32), q1.2))))))
set_option maxRecDepth 20000 in
theorem T_W_seen {g : mj_G} : ∀ d, 2 ≤ d → ∀ (x1 : Int32) (x2 : Int32) (x3 : Int32) (M : mj_M), mj_Mt g (mj_qI g) d y_W_seen c_W_seen 4 (some .int) [.ref 0, .int x1, .int x2, .int x3] M (F_W_seen x1 x2 x3 M) := by
  intro d hd x1 x2 x3 M
  obtain ⟨e, rfl⟩ : ∃ e, d = e + 1 := ⟨d - 1, by omega⟩
  have he : 1 ≤ e := by omega
  refine mj_met (by decide +kernel) (Nat.le_of_ble_eq_true rfl) ?_
  unfold F_W_seen
  refine mj_L (L' := [(0, .ref 0), (1, .int x1), (2, .int x2), (3, .int x3)]) [0, 1, 2, 3] rfl ?_
  refine mj_aload_n (pc := 0) (i := 0) rfl dd_W_seen_0 ?_
  refine mj_getR (pc := 1) (b := 0) (k := 4) qf_W_42 sh_0 cl_11 rfl (by decide) (r := 13) rfl dd_W_seen_1 ?_
  refine mj_iload_n (pc := 4) (i := 1) rfl dd_W_seen_4 ?_
  refine mj_callVI (pc := 5) (idx := 150) (b := 13) (As := [.int x1]) (st := []) sh_13 cl_0 ev_Coast_hasHouse ql_W_150 rfl (Nat.le_of_ble_eq_true rfl) (T_Coast_hasHouse (g := g) e (by omega) x1 M) dd_W_seen_5 (fun q1 hq1 => ?_)
  refine mj_if_eq (pc := 8) (tgt := 33) dd_W_seen_8 rfl (fun h2 => ?_) (fun h2 => ?_)
  · refine mj_iconst (pc := 33) (v := (-1 : Int32)) (by decide) dd_W_seen_33 ?_
    exact mj_iret dd_W_seen_34 rfl rfl
  · refine mj_iload_n (pc := 11) (i := 2) rfl dd_W_seen_11 ?_
    refine mj_if_lt (pc := 12) (tgt := 33) dd_W_seen_12 rfl (fun h3 => ?_) (fun h3 => ?_)
    · refine mj_iconst (pc := 33) (v := (-1 : Int32)) (by decide) dd_W_seen_33 ?_
      exact mj_iret dd_W_seen_34 rfl rfl
    · refine mj_iload_n (pc := 15) (i := 2) rfl dd_W_seen_15 ?_
      refine mj_bipush (pc := 16) (v := (20 : Int32)) (by decide) dd_W_seen_16 ?_
      refine mj_icmp_gt (pc := 18) (tgt := 33) dd_W_seen_18 rfl (fun h4 => ?_) (fun h4 => ?_)
      · refine mj_iconst (pc := 33) (v := (-1 : Int32)) (by decide) dd_W_seen_33 ?_
        exact mj_iret dd_W_seen_34 rfl rfl
      · refine mj_aload_n (pc := 21) (i := 0) rfl dd_W_seen_21 ?_
        refine mj_getR (pc := 22) (b := 0) (k := 8) qf_W_74 sh_0 cl_11 rfl (by decide) (r := 29) rfl dd_W_seen_22 ?_
        refine mj_getI (pc := 25) (b := 29) (k := 0) qf_W_147 sh_29 cl_3 rfl (by decide) rfl dd_W_seen_25 ?_
        refine mj_bipush (pc := 28) (v := (10 : Int32)) (by decide) dd_W_seen_28 ?_
        refine mj_icmp_lt (pc := 30) (tgt := 35) dd_W_seen_30 rfl (fun h5 => ?_) (fun h5 => ?_)
        · refine mj_aload_n (pc := 35) (i := 0) rfl dd_W_seen_35 ?_
          refine mj_getR (pc := 36) (b := 0) (k := 8) qf_W_74 sh_0 cl_11 rfl (by decide) (r := 29) rfl dd_W_seen_36 ?_
          refine mj_iload_n (pc := 39) (i := 1) rfl dd_W_seen_39 ?_
          refine mj_iload_n (pc := 40) (i := 2) rfl dd_W_seen_40 ?_
          refine mj_iload_n (pc := 41) (i := 3) rfl dd_W_seen_41 ?_
          refine mj_callVV (pc := 42) (idx := 302) (b := 29) (As := [.int x1, .int x2, .int x3]) (st := []) sh_29 cl_3 ev_Guess_add ql_W_302 rfl (Nat.le_of_ble_eq_true rfl) (T_Guess_add (g := g) e (by omega) x1 x2 x3 q1.2) dd_W_seen_42 (fun q6 hq6 => ?_)
          refine mj_aload_n (pc := 45) (i := 0) rfl dd_W_seen_45 ?_
          refine mj_getR (pc := 46) (b := 0) (k := 8) qf_W_74 sh_0 cl_11 rfl (by decide) (r := 29) rfl dd_W_seen_46 ?_
          refine mj_getI (pc := 49) (b := 29) (k := 0) qf_W_147 sh_29 cl_3 rfl (by decide) rfl dd_W_seen_49 ?_
          exact mj_iret dd_W_seen_52 rfl rfl
        · refine mj_iconst (pc := 33) (v := (-1 : Int32)) (by decide) dd_W_seen_33 ?_
          exact mj_iret dd_W_seen_34 rfl rfl
def F_M_seen (x1 : Int32) (x2 : Int32) (x3 : Int32) (M : mj_M) : Option (Int32 × mj_M) :=
    (F_M_isHouse x1 M).bind (fun q1 =>
     if q1.1 = (0) then
     (some ((-1 : Int32), q1.2))
     else
     ((F_M_in x2 (0 : Int32) (20 : Int32) q1.2).bind (fun q3 =>
     if q3.1 = (0) then
     (some ((-1 : Int32), q3.2))
     else
     (if (q3.2 48 40) = (10 : Int32) then
     (some ((-1 : Int32), q3.2))
     else
     (mj_ck (q3.2 48 40) 10 (mj_lt (mj_u q3.2 69 (q3.2 48 40).toNatClampNeg x1) (fun M6 =>
     mj_ck (M6 48 40) 10 (mj_lt (mj_u M6 70 (M6 48 40).toNatClampNeg x2) (fun M7 =>
     mj_ck (M7 48 40) 10 (mj_lt (mj_u M7 71 (M7 48 40).toNatClampNeg (vp_nar .boolean x3)) (fun M8 =>
     mj_lt (mj_u M8 48 40 ((M8 48 40) + (1 : Int32))) (fun M9 =>
     some (M9 48 40, M9)))))))))))))
set_option maxRecDepth 20000 in
theorem T_M_seen {g : mj_G} : ∀ d, 3 ≤ d → ∀ (x1 : Int32) (x2 : Int32) (x3 : Int32) (M : mj_M), mj_Mt g (mj_qI g) d y_M_seen c_M_seen 4 (some .int) [.ref 48, .int x1, .int x2, .int x3] M (F_M_seen x1 x2 x3 M) := by
  intro d hd x1 x2 x3 M
  obtain ⟨e, rfl⟩ : ∃ e, d = e + 1 := ⟨d - 1, by omega⟩
  have he : 2 ≤ e := by omega
  refine mj_met (by decide +kernel) (Nat.le_of_ble_eq_true rfl) ?_
  unfold F_M_seen
  refine mj_L (L' := [(0, .ref 48), (1, .int x1), (2, .int x2), (3, .int x3)]) [0, 1, 2, 3] rfl ?_
  refine mj_aload_n (pc := 0) (i := 0) rfl dd_M_seen_0 ?_
  refine mj_iload_n (pc := 1) (i := 1) rfl dd_M_seen_1 ?_
  refine mj_callVI (pc := 2) (idx := 300) (b := 48) (As := [.int x1]) (st := []) sh_48 cl_12 ev_M_isHouse ql_M_300 rfl (Nat.le_of_ble_eq_true rfl) (T_M_isHouse (g := g) e (by omega) x1 M) dd_M_seen_2 (fun q1 hq1 => ?_)
  refine mj_if_eq (pc := 5) (tgt := 27) dd_M_seen_5 rfl (fun h2 => ?_) (fun h2 => ?_)
  · refine mj_iconst (pc := 27) (v := (-1 : Int32)) (by decide) dd_M_seen_27 ?_
    exact mj_iret dd_M_seen_28 rfl rfl
  · refine mj_iload_n (pc := 8) (i := 2) rfl dd_M_seen_8 ?_
    refine mj_iconst (pc := 9) (v := (0 : Int32)) (by decide) dd_M_seen_9 ?_
    refine mj_bipush (pc := 10) (v := (20 : Int32)) (by decide) dd_M_seen_10 ?_
    refine mj_callSI (pc := 12) (idx := 205) (As := [.int x2, .int (0 : Int32), .int (20 : Int32)]) (st := []) es_M_in ql_M_205 rfl (Nat.le_of_ble_eq_true rfl) (T_M_in (g := g) e (by omega) x2 (0 : Int32) (20 : Int32) q1.2) dd_M_seen_12 (fun q3 hq3 => ?_)
    refine mj_if_eq (pc := 15) (tgt := 27) dd_M_seen_15 rfl (fun h4 => ?_) (fun h4 => ?_)
    · refine mj_iconst (pc := 27) (v := (-1 : Int32)) (by decide) dd_M_seen_27 ?_
      exact mj_iret dd_M_seen_28 rfl rfl
    · refine mj_aload_n (pc := 18) (i := 0) rfl dd_M_seen_18 ?_
      refine mj_getI (pc := 19) (b := 48) (k := 40) qf_M_254 sh_48 cl_12 rfl (by decide) rfl dd_M_seen_19 ?_
      refine mj_bipush (pc := 22) (v := (10 : Int32)) (by decide) dd_M_seen_22 ?_
      refine mj_icmp_ne (pc := 24) (tgt := 29) dd_M_seen_24 rfl (fun h5 => ?_) (fun h5 => ?_)
      · refine mj_iconst (pc := 27) (v := (-1 : Int32)) (by decide) dd_M_seen_27 ?_
        exact mj_iret dd_M_seen_28 rfl rfl
      · refine mj_aload_n (pc := 29) (i := 0) rfl dd_M_seen_29 ?_
        refine mj_getR (pc := 30) (b := 48) (k := 37) qf_M_77 sh_48 cl_12 rfl (by decide) (r := 69) rfl dd_M_seen_30 ?_
        refine mj_aload_n (pc := 33) (i := 0) rfl dd_M_seen_33 ?_
        refine mj_getI (pc := 34) (b := 48) (k := 40) qf_M_254 sh_48 cl_12 rfl (by decide) rfl dd_M_seen_34 ?_
        refine mj_iload_n (pc := 37) (i := 1) rfl dd_M_seen_37 ?_
        refine mj_iast (pc := 38) sh_69 dd_M_seen_38 (fun M6 _ => ?_)
        refine mj_aload_n (pc := 39) (i := 0) rfl dd_M_seen_39 ?_
        refine mj_getR (pc := 40) (b := 48) (k := 38) qf_M_80 sh_48 cl_12 rfl (by decide) (r := 70) rfl dd_M_seen_40 ?_
        refine mj_aload_n (pc := 43) (i := 0) rfl dd_M_seen_43 ?_
        refine mj_getI (pc := 44) (b := 48) (k := 40) qf_M_254 sh_48 cl_12 rfl (by decide) rfl dd_M_seen_44 ?_
        refine mj_iload_n (pc := 47) (i := 2) rfl dd_M_seen_47 ?_
        refine mj_iast (pc := 48) sh_70 dd_M_seen_48 (fun M7 _ => ?_)
        refine mj_aload_n (pc := 49) (i := 0) rfl dd_M_seen_49 ?_
        refine mj_getR (pc := 50) (b := 48) (k := 39) qf_M_83 sh_48 cl_12 rfl (by decide) (r := 71) rfl dd_M_seen_50 ?_
        refine mj_aload_n (pc := 53) (i := 0) rfl dd_M_seen_53 ?_
        refine mj_getI (pc := 54) (b := 48) (k := 40) qf_M_254 sh_48 cl_12 rfl (by decide) rfl dd_M_seen_54 ?_
        refine mj_iload_n (pc := 57) (i := 3) rfl dd_M_seen_57 ?_
        refine mj_zast (pc := 58) sh_71 dd_M_seen_58 (fun M8 _ => ?_)
        refine mj_aload_n (pc := 59) (i := 0) rfl dd_M_seen_59 ?_
        refine mj_dup (pc := 60) rfl dd_M_seen_60 ?_
        refine mj_getI (pc := 61) (b := 48) (k := 40) qf_M_254 sh_48 cl_12 rfl (by decide) rfl dd_M_seen_61 ?_
        refine mj_iconst (pc := 64) (v := (1 : Int32)) (by decide) dd_M_seen_64 ?_
        refine mj_iadd (pc := 65) dd_M_seen_65 ?_
        refine mj_putI (pc := 66) (b := 48) (k := 40) qf_M_254 sh_48 cl_12 rfl (by decide) (by decide) rfl rfl rfl dd_M_seen_66 (fun M9 _ => ?_)
        refine mj_aload_n (pc := 69) (i := 0) rfl dd_M_seen_69 ?_
        refine mj_getI (pc := 70) (b := 48) (k := 40) qf_M_254 sh_48 cl_12 rfl (by decide) rfl dd_M_seen_70 ?_
        exact mj_iret dd_M_seen_73 rfl rfl
def F_Stays_asTold_b20 (N : Nat) (x2 : Int32) (s1 : Int32) (s2 : Int32) (s3 : Int32) (M : mj_M) : Option (Int32 × mj_M) :=
    mj_ck x2 6 (
     (F_Stays_by N s1 s2 s3 (M 18 x2.toNatClampNeg) M).bind (fun q3 =>
     some (q3.1, q3.2)))
set_option maxRecDepth 20000 in
theorem T_Stays_asTold_b20 {g : mj_G} (N : Nat) (e : Nat) (he : 4 ≤ e) (x2 : Int32) (s1 : Int32) (s2 : Int32) (s3 : Int32) (M : mj_M) : mj_X g (mj_qI g) "WinterTellers$Stays" c_Stays_asTold 3 (some .int) e 20 [(0, .ref 28), (2, .int x2)] [.int s3, .int s2, .int s1, .ref 28] M (F_Stays_asTold_b20 N x2 s1 s2 s3 M) := by
  unfold F_Stays_asTold_b20
  refine mj_aload_n (pc := 20) (i := 0) rfl dd_Stays_asTold_20 ?_
  refine mj_getR (pc := 21) (b := 28) (k := 0) qf_Stays_9 sh_28 cl_9 rfl (by decide) (r := 13) rfl dd_Stays_asTold_21 ?_
  refine mj_getR (pc := 24) (b := 13) (k := 10) qf_Stays_46 sh_13 cl_0 rfl (by decide) (r := 18) rfl dd_Stays_asTold_24 ?_
  refine mj_iload_n (pc := 27) (i := 2) rfl dd_Stays_asTold_27 ?_
  refine mj_iald (pc := 28) sh_18 dd_Stays_asTold_28 ?_
  refine mj_callVI (pc := 29) (idx := 32) (b := 28) (As := [.int s1, .int s2, .int s3, .int (M 18 x2.toNatClampNeg)]) (st := []) sh_28 cl_9 ev_Stays_by ql_Stays_32 rfl (Nat.le_of_ble_eq_true rfl) (T_Stays_by (g := g) N e (by omega) s1 s2 s3 (M 18 x2.toNatClampNeg) M) dd_Stays_asTold_29 (fun q3 hq3 => ?_)
  exact mj_iret dd_Stays_asTold_32 rfl rfl
def F_Stays_asTold (N : Nat) (x1 : Int32) (x2 : Int32) (M : mj_M) : Option (Int32 × mj_M) :=
    (F_Coast_knows x1 x2 M).bind (fun q1 =>
     if q1.1 = (0) then
     (F_Stays_asTold_b20 N x2 x1 x2 (0 : Int32) q1.2)
     else
     (F_Stays_asTold_b20 N x2 x1 x2 (1 : Int32) q1.2))
set_option maxRecDepth 20000 in
theorem T_Stays_asTold {g : mj_G} (N : Nat) : ∀ d, 5 ≤ d → ∀ (x1 : Int32) (x2 : Int32) (M : mj_M), mj_Mt g (mj_qI g) d y_Stays_asTold c_Stays_asTold 3 (some .int) [.ref 28, .int x1, .int x2] M (F_Stays_asTold N x1 x2 M) := by
  intro d hd x1 x2 M
  obtain ⟨e, rfl⟩ : ∃ e, d = e + 1 := ⟨d - 1, by omega⟩
  have he : 4 ≤ e := by omega
  refine mj_met (by decide +kernel) (Nat.le_of_ble_eq_true rfl) ?_
  unfold F_Stays_asTold
  refine mj_L (L' := [(0, .ref 28), (1, .int x1), (2, .int x2)]) [0, 1, 2] rfl ?_
  refine mj_aload_n (pc := 0) (i := 0) rfl dd_Stays_asTold_0 ?_
  refine mj_iload_n (pc := 1) (i := 1) rfl dd_Stays_asTold_1 ?_
  refine mj_iload_n (pc := 2) (i := 2) rfl dd_Stays_asTold_2 ?_
  refine mj_aload_n (pc := 3) (i := 0) rfl dd_Stays_asTold_3 ?_
  refine mj_getR (pc := 4) (b := 28) (k := 0) qf_Stays_9 sh_28 cl_9 rfl (by decide) (r := 13) rfl dd_Stays_asTold_4 ?_
  refine mj_iload_n (pc := 7) (i := 1) rfl dd_Stays_asTold_7 ?_
  refine mj_iload_n (pc := 8) (i := 2) rfl dd_Stays_asTold_8 ?_
  refine mj_callVI (pc := 9) (idx := 40) (b := 13) (As := [.int x1, .int x2]) (st := [.int x2, .int x1, .ref 28]) sh_13 cl_0 ev_Coast_knows ql_Stays_40 rfl (Nat.le_of_ble_eq_true rfl) (T_Coast_knows (g := g) e (by omega) x1 x2 M) dd_Stays_asTold_9 (fun q1 hq1 => ?_)
  refine mj_if_eq (pc := 12) (tgt := 19) dd_Stays_asTold_12 rfl (fun h2 => ?_) (fun h2 => ?_)
  · refine mj_iconst (pc := 19) (v := (0 : Int32)) (by decide) dd_Stays_asTold_19 ?_
    refine mj_L (L' := [(0, .ref 28), (2, .int x2)]) [0, 2] rfl ?_
    exact T_Stays_asTold_b20 (g := g) N e he x2 x1 x2 (0 : Int32) q1.2
  · refine mj_iconst (pc := 15) (v := (1 : Int32)) (by decide) dd_Stays_asTold_15 ?_
    refine mj_goto (pc := 16) (tgt := 20) dd_Stays_asTold_16 rfl ?_
    refine mj_L (L' := [(0, .ref 28), (2, .int x2)]) [0, 2] rfl ?_
    exact T_Stays_asTold_b20 (g := g) N e he x2 x1 x2 (1 : Int32) q1.2
