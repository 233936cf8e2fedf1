/-! ===== functions and their proofs ===== -/
def F_M_readLaw_b43 (N : Nat) (M : mj_M) : Option (Int32 × mj_M) :=
    (F_M_atEnd N M).bind (fun q8 =>
     some (q8.1, q8.2))
set_option maxRecDepth 20000 in
theorem T_M_readLaw_b43 {g : mj_G} (N : Nat) (e : Nat) (he : 109 ≤ e) (M : mj_M) : mj_X g (mj_qI g) "WinterTellersModel" c_M_readLaw 2 (some .int) e 43 [(0, .ref 48)] [] M (F_M_readLaw_b43 N M) := by
  unfold F_M_readLaw_b43
  refine mj_aload_n (pc := 43) (i := 0) rfl dd_M_readLaw_43 ?_
  refine mj_callVI (pc := 44) (idx := 177) (b := 48) (As := []) (st := []) sh_48 cl_12 ev_M_atEnd ql_M_177 rfl (Nat.le_of_ble_eq_true rfl) (T_M_atEnd (g := g) N e (by omega) M) dd_M_readLaw_44 (fun q8 hq8 => ?_)
  exact mj_iret dd_M_readLaw_47 rfl rfl
def F_M_readLaw_b9 (N : Nat) : Nat → mj_M → Option (Int32 × mj_M)
  | 0, _ => none
  | n + 1, M =>
    if (M 48 4) = (-1 : Int32) then
     ((F_M_look N M).bind (fun q4 =>
     if q4.1 = (59 : Int32) then
     (mj_lt (mj_u q4.2 48 3 ((q4.2 48 3) + (1 : Int32))) (fun M6 =>
     (F_M_clause N M6).bind (fun q7 =>
     F_M_readLaw_b9 N n q7)))
     else
     (F_M_readLaw_b43 N q4.2)))
     else
     (F_M_readLaw_b43 N M)
set_option maxRecDepth 20000 in
theorem T_M_readLaw_b9 {g : mj_G} (N : Nat) (e : Nat) (he : 109 ≤ e) : ∀ (n : Nat) (M : mj_M), mj_X g (mj_qI g) "WinterTellersModel" c_M_readLaw 2 (some .int) e 9 [(0, .ref 48)] [] M (F_M_readLaw_b9 N n M) := by
  intro n
  induction n with
  | zero => intro M; exact mj_none
  | succ n ih =>
    intro M
    rw [F_M_readLaw_b9]
    refine mj_aload_n (pc := 9) (i := 0) rfl dd_M_readLaw_9 ?_
    refine mj_getI (pc := 10) (b := 48) (k := 4) qf_M_107 sh_48 cl_12 rfl (by decide) rfl dd_M_readLaw_10 ?_
    refine mj_iconst (pc := 13) (v := (-1 : Int32)) (by decide) dd_M_readLaw_13 ?_
    refine mj_icmp_ne (pc := 14) (tgt := 43) dd_M_readLaw_14 rfl (fun h3 => ?_) (fun h3 => ?_)
    · refine mj_aload_n (pc := 17) (i := 0) rfl dd_M_readLaw_17 ?_
      refine mj_callVI (pc := 18) (idx := 119) (b := 48) (As := []) (st := []) sh_48 cl_12 ev_M_look ql_M_119 rfl (Nat.le_of_ble_eq_true rfl) (T_M_look (g := g) N e (by omega) M) dd_M_readLaw_18 (fun q4 hq4 => ?_)
      refine mj_bipush (pc := 21) (v := (59 : Int32)) (by decide) dd_M_readLaw_21 ?_
      refine mj_icmp_ne (pc := 23) (tgt := 43) dd_M_readLaw_23 rfl (fun h5 => ?_) (fun h5 => ?_)
      · refine mj_aload_n (pc := 26) (i := 0) rfl dd_M_readLaw_26 ?_
        refine mj_dup (pc := 27) rfl dd_M_readLaw_27 ?_
        refine mj_getI (pc := 28) (b := 48) (k := 3) qf_M_100 sh_48 cl_12 rfl (by decide) rfl dd_M_readLaw_28 ?_
        refine mj_iconst (pc := 31) (v := (1 : Int32)) (by decide) dd_M_readLaw_31 ?_
        refine mj_iadd (pc := 32) dd_M_readLaw_32 ?_
        refine mj_putI (pc := 33) (b := 48) (k := 3) qf_M_100 sh_48 cl_12 rfl (by decide) (by decide) rfl rfl rfl dd_M_readLaw_33 (fun M6 _ => ?_)
        refine mj_aload_n (pc := 36) (i := 0) rfl dd_M_readLaw_36 ?_
        refine mj_callVV (pc := 37) (idx := 174) (b := 48) (As := []) (st := []) sh_48 cl_12 ev_M_clause ql_M_174 rfl (Nat.le_of_ble_eq_true rfl) (T_M_clause (g := g) N e (by omega) M6) dd_M_readLaw_37 (fun q7 hq7 => ?_)
        refine mj_goto (pc := 40) (tgt := 9) dd_M_readLaw_40 rfl ?_
        refine mj_L (L' := [(0, .ref 48)]) [0] rfl ?_
        exact ih q7
      · refine mj_L (L' := [(0, .ref 48)]) [0] rfl ?_
        exact T_M_readLaw_b43 (g := g) N e he q4.2
    · refine mj_L (L' := [(0, .ref 48)]) [0] rfl ?_
      exact T_M_readLaw_b43 (g := g) N e he M
def F_M_readLaw (N : Nat) (x1 : Int32) (M : mj_M) : Option (Int32 × mj_M) :=
    (F_M_open x1 M).bind (fun q1 =>
     (F_M_clause N q1).bind (fun q2 =>
     F_M_readLaw_b9 N N q2))
set_option maxRecDepth 20000 in
theorem T_M_readLaw {g : mj_G} (N : Nat) : ∀ d, 110 ≤ d → ∀ (x1 : Int32) (M : mj_M), mj_Mt g (mj_qI g) d y_M_readLaw c_M_readLaw 2 (some .int) [.ref 48, .int x1] M (F_M_readLaw N x1 M) := by
  intro d hd x1 M
  obtain ⟨e, rfl⟩ : ∃ e, d = e + 1 := ⟨d - 1, by omega⟩
  have he : 109 ≤ e := by omega
  refine mj_met (by decide +kernel) (Nat.le_of_ble_eq_true rfl) ?_
  unfold F_M_readLaw
  refine mj_L (L' := [(0, .ref 48), (1, .int x1)]) [0, 1] rfl ?_
  refine mj_aload_n (pc := 0) (i := 0) rfl dd_M_readLaw_0 ?_
  refine mj_iload_n (pc := 1) (i := 1) rfl dd_M_readLaw_1 ?_
  refine mj_callVV (pc := 2) (idx := 171) (b := 48) (As := [.int x1]) (st := []) sh_48 cl_12 ev_M_open ql_M_171 rfl (Nat.le_of_ble_eq_true rfl) (T_M_open (g := g) e (by omega) x1 M) dd_M_readLaw_2 (fun q1 hq1 => ?_)
  refine mj_aload_n (pc := 5) (i := 0) rfl dd_M_readLaw_5 ?_
  refine mj_callVV (pc := 6) (idx := 174) (b := 48) (As := []) (st := []) sh_48 cl_12 ev_M_clause ql_M_174 rfl (Nat.le_of_ble_eq_true rfl) (T_M_clause (g := g) N e (by omega) q1) dd_M_readLaw_6 (fun q2 hq2 => ?_)
  refine mj_L (L' := [(0, .ref 48)]) [0] rfl ?_
  exact T_M_readLaw_b9 (g := g) N e he N q2
def F_M_usual (x0 : Int32) (x1 : Int32) (M : mj_M) : Option (Int32 × mj_M) :=
    if x0 = (104 : Int32) then
     (if x1 = (0) then
     (some ((0 : Int32), M))
     else
     (if x1 = (1 : Int32) then
     (some ((3 : Int32), M))
     else
     (some ((2 : Int32), M))))
     else
     (if x0 = (115 : Int32) then
     (if x1 = (0) then
     (some ((20 : Int32), M))
     else
     (if x1 = (1 : Int32) then
     (some ((63 : Int32), M))
     else
     (if x1 = (2 : Int32) then
     (some ((0 : Int32), M))
     else
     (some ((1 : Int32), M)))))
     else
     (if x1 = (0) then
     (some ((4 : Int32), M))
     else
     (if x1 = (1 : Int32) then
     (some ((2 : Int32), M))
     else
     (some ((0 : Int32), M)))))
set_option maxRecDepth 20000 in
theorem T_M_usual {g : mj_G} : ∀ d, 1 ≤ d → ∀ (x0 : Int32) (x1 : Int32) (M : mj_M), mj_Mt g (mj_qI g) d y_M_usual c_M_usual 2 (some .int) [.int x0, .int x1] M (F_M_usual x0 x1 M) := by
  intro d hd x0 x1 M
  obtain ⟨e, rfl⟩ : ∃ e, d = e + 1 := ⟨d - 1, by omega⟩
  have he : 0 ≤ e := by omega
  refine mj_met (by decide +kernel) (Nat.le_of_ble_eq_true rfl) ?_
  unfold F_M_usual
  refine mj_L (L' := [(0, .int x0), (1, .int x1)]) [0, 1] rfl ?_
  refine mj_iload_n (pc := 0) (i := 0) rfl dd_M_usual_0 ?_
  refine mj_ife (fun h1 => ?_) (fun h1 => ?_)
  · refine mj_lswK (pc := 1) (tgt := 58) (k := (104 : Int32)) (off := 57) h1 dd_M_usual_1 (by decide) (by decide) rfl ?_
    refine mj_iload_n (pc := 58) (i := 1) rfl dd_M_usual_58 ?_
    refine mj_if_ne (pc := 59) (tgt := 66) dd_M_usual_59 rfl (fun h2 => ?_) (fun h2 => ?_)
    · refine mj_iconst (pc := 62) (v := (0 : Int32)) (by decide) dd_M_usual_62 ?_
      refine mj_goto (pc := 63) (tgt := 76) dd_M_usual_63 rfl ?_
      exact mj_iret dd_M_usual_76 rfl rfl
    · refine mj_iload_n (pc := 66) (i := 1) rfl dd_M_usual_66 ?_
      refine mj_iconst (pc := 67) (v := (1 : Int32)) (by decide) dd_M_usual_67 ?_
      refine mj_icmp_ne (pc := 68) (tgt := 75) dd_M_usual_68 rfl (fun h3 => ?_) (fun h3 => ?_)
      · refine mj_iconst (pc := 71) (v := (3 : Int32)) (by decide) dd_M_usual_71 ?_
        refine mj_goto (pc := 72) (tgt := 76) dd_M_usual_72 rfl ?_
        exact mj_iret dd_M_usual_76 rfl rfl
      · refine mj_iconst (pc := 75) (v := (2 : Int32)) (by decide) dd_M_usual_75 ?_
        exact mj_iret dd_M_usual_76 rfl rfl
  · refine mj_ife (fun h4 => ?_) (fun h4 => ?_)
    · refine mj_lswK (pc := 1) (tgt := 28) (k := (115 : Int32)) (off := 27) h4 dd_M_usual_1 (by decide) (by decide) rfl ?_
      refine mj_iload_n (pc := 28) (i := 1) rfl dd_M_usual_28 ?_
      refine mj_if_ne (pc := 29) (tgt := 37) dd_M_usual_29 rfl (fun h5 => ?_) (fun h5 => ?_)
      · refine mj_bipush (pc := 32) (v := (20 : Int32)) (by decide) dd_M_usual_32 ?_
        refine mj_goto (pc := 34) (tgt := 57) dd_M_usual_34 rfl ?_
        exact mj_iret dd_M_usual_57 rfl rfl
      · refine mj_iload_n (pc := 37) (i := 1) rfl dd_M_usual_37 ?_
        refine mj_iconst (pc := 38) (v := (1 : Int32)) (by decide) dd_M_usual_38 ?_
        refine mj_icmp_ne (pc := 39) (tgt := 47) dd_M_usual_39 rfl (fun h6 => ?_) (fun h6 => ?_)
        · refine mj_bipush (pc := 42) (v := (63 : Int32)) (by decide) dd_M_usual_42 ?_
          refine mj_goto (pc := 44) (tgt := 57) dd_M_usual_44 rfl ?_
          exact mj_iret dd_M_usual_57 rfl rfl
        · refine mj_iload_n (pc := 47) (i := 1) rfl dd_M_usual_47 ?_
          refine mj_iconst (pc := 48) (v := (2 : Int32)) (by decide) dd_M_usual_48 ?_
          refine mj_icmp_ne (pc := 49) (tgt := 56) dd_M_usual_49 rfl (fun h7 => ?_) (fun h7 => ?_)
          · refine mj_iconst (pc := 52) (v := (0 : Int32)) (by decide) dd_M_usual_52 ?_
            refine mj_goto (pc := 53) (tgt := 57) dd_M_usual_53 rfl ?_
            exact mj_iret dd_M_usual_57 rfl rfl
          · refine mj_iconst (pc := 56) (v := (1 : Int32)) (by decide) dd_M_usual_56 ?_
            exact mj_iret dd_M_usual_57 rfl rfl
    · refine mj_lswD (pc := 1) (tgt := 77) (ps := #[(104, 57), (115, 27)]) (mj_k1 (mj_ni (k := (104 : Int32)) (n := 104) (by decide) h1) (mj_k1 (mj_ni (k := (115 : Int32)) (n := 115) (by decide) h4) mj_k0)) dd_M_usual_1 (by decide) rfl ?_
      refine mj_iload_n (pc := 77) (i := 1) rfl dd_M_usual_77 ?_
      refine mj_if_ne (pc := 78) (tgt := 85) dd_M_usual_78 rfl (fun h8 => ?_) (fun h8 => ?_)
      · refine mj_iconst (pc := 81) (v := (4 : Int32)) (by decide) dd_M_usual_81 ?_
        refine mj_goto (pc := 82) (tgt := 95) dd_M_usual_82 rfl ?_
        exact mj_iret dd_M_usual_95 rfl rfl
      · refine mj_iload_n (pc := 85) (i := 1) rfl dd_M_usual_85 ?_
        refine mj_iconst (pc := 86) (v := (1 : Int32)) (by decide) dd_M_usual_86 ?_
        refine mj_icmp_ne (pc := 87) (tgt := 94) dd_M_usual_87 rfl (fun h9 => ?_) (fun h9 => ?_)
        · refine mj_iconst (pc := 90) (v := (2 : Int32)) (by decide) dd_M_usual_90 ?_
          refine mj_goto (pc := 91) (tgt := 95) dd_M_usual_91 rfl ?_
          exact mj_iret dd_M_usual_95 rfl rfl
        · refine mj_iconst (pc := 94) (v := (0 : Int32)) (by decide) dd_M_usual_94 ?_
          exact mj_iret dd_M_usual_95 rfl rfl
def F_M_itemOf (x0 : Int32) (x1 : Int32) (M : mj_M) : Option (Int32 × mj_M) :=
    if x0 = (104 : Int32) then
     (if x1 = (107 : Int32) then
     (some ((0 : Int32), M))
     else
     (if x1 = (99 : Int32) then
     (some ((1 : Int32), M))
     else
     (if x1 = (119 : Int32) then
     (some ((2 : Int32), M))
     else
     (some ((-1 : Int32), M)))))
     else
     (if x0 = (115 : Int32) then
     (if x1 = (98 : Int32) then
     (some ((0 : Int32), M))
     else
     (if x1 = (109 : Int32) then
     (some ((1 : Int32), M))
     else
     (if x1 = (97 : Int32) then
     (some ((2 : Int32), M))
     else
     (if x1 = (111 : Int32) then
     (some ((3 : Int32), M))
     else
     (some ((-1 : Int32), M))))))
     else
     (if x1 = (108 : Int32) then
     (some ((0 : Int32), M))
     else
     (if x1 = (107 : Int32) then
     (some ((1 : Int32), M))
     else
     (if x1 = (114 : Int32) then
     (some ((2 : Int32), M))
     else
     (some ((-1 : Int32), M))))))
set_option maxRecDepth 20000 in
theorem T_M_itemOf {g : mj_G} : ∀ d, 1 ≤ d → ∀ (x0 : Int32) (x1 : Int32) (M : mj_M), mj_Mt g (mj_qI g) d y_M_itemOf c_M_itemOf 2 (some .int) [.int x0, .int x1] M (F_M_itemOf x0 x1 M) := by
  intro d hd x0 x1 M
  obtain ⟨e, rfl⟩ : ∃ e, d = e + 1 := ⟨d - 1, by omega⟩
  have he : 0 ≤ e := by omega
  refine mj_met (by decide +kernel) (Nat.le_of_ble_eq_true rfl) ?_
  unfold F_M_itemOf
  refine mj_L (L' := [(0, .int x0), (1, .int x1)]) [0, 1] rfl ?_
  refine mj_iload_n (pc := 0) (i := 0) rfl dd_M_itemOf_0 ?_
  refine mj_ife (fun h1 => ?_) (fun h1 => ?_)
  · refine mj_lswK (pc := 1) (tgt := 70) (k := (104 : Int32)) (off := 69) h1 dd_M_itemOf_1 (by decide) (by decide) rfl ?_
    refine mj_iload_n (pc := 70) (i := 1) rfl dd_M_itemOf_70 ?_
    refine mj_bipush (pc := 71) (v := (107 : Int32)) (by decide) dd_M_itemOf_71 ?_
    refine mj_icmp_ne (pc := 73) (tgt := 80) dd_M_itemOf_73 rfl (fun h2 => ?_) (fun h2 => ?_)
    · refine mj_iconst (pc := 76) (v := (0 : Int32)) (by decide) dd_M_itemOf_76 ?_
      refine mj_goto (pc := 77) (tgt := 101) dd_M_itemOf_77 rfl ?_
      exact mj_iret dd_M_itemOf_101 rfl rfl
    · refine mj_iload_n (pc := 80) (i := 1) rfl dd_M_itemOf_80 ?_
      refine mj_bipush (pc := 81) (v := (99 : Int32)) (by decide) dd_M_itemOf_81 ?_
      refine mj_icmp_ne (pc := 83) (tgt := 90) dd_M_itemOf_83 rfl (fun h3 => ?_) (fun h3 => ?_)
      · refine mj_iconst (pc := 86) (v := (1 : Int32)) (by decide) dd_M_itemOf_86 ?_
        refine mj_goto (pc := 87) (tgt := 101) dd_M_itemOf_87 rfl ?_
        exact mj_iret dd_M_itemOf_101 rfl rfl
      · refine mj_iload_n (pc := 90) (i := 1) rfl dd_M_itemOf_90 ?_
        refine mj_bipush (pc := 91) (v := (119 : Int32)) (by decide) dd_M_itemOf_91 ?_
        refine mj_icmp_ne (pc := 93) (tgt := 100) dd_M_itemOf_93 rfl (fun h4 => ?_) (fun h4 => ?_)
        · refine mj_iconst (pc := 96) (v := (2 : Int32)) (by decide) dd_M_itemOf_96 ?_
          refine mj_goto (pc := 97) (tgt := 101) dd_M_itemOf_97 rfl ?_
          exact mj_iret dd_M_itemOf_101 rfl rfl
        · refine mj_iconst (pc := 100) (v := (-1 : Int32)) (by decide) dd_M_itemOf_100 ?_
          exact mj_iret dd_M_itemOf_101 rfl rfl
  · refine mj_ife (fun h5 => ?_) (fun h5 => ?_)
    · refine mj_lswK (pc := 1) (tgt := 28) (k := (115 : Int32)) (off := 27) h5 dd_M_itemOf_1 (by decide) (by decide) rfl ?_
      refine mj_iload_n (pc := 28) (i := 1) rfl dd_M_itemOf_28 ?_
      refine mj_bipush (pc := 29) (v := (98 : Int32)) (by decide) dd_M_itemOf_29 ?_
      refine mj_icmp_ne (pc := 31) (tgt := 38) dd_M_itemOf_31 rfl (fun h6 => ?_) (fun h6 => ?_)
      · refine mj_iconst (pc := 34) (v := (0 : Int32)) (by decide) dd_M_itemOf_34 ?_
        refine mj_goto (pc := 35) (tgt := 69) dd_M_itemOf_35 rfl ?_
        exact mj_iret dd_M_itemOf_69 rfl rfl
      · refine mj_iload_n (pc := 38) (i := 1) rfl dd_M_itemOf_38 ?_
        refine mj_bipush (pc := 39) (v := (109 : Int32)) (by decide) dd_M_itemOf_39 ?_
        refine mj_icmp_ne (pc := 41) (tgt := 48) dd_M_itemOf_41 rfl (fun h7 => ?_) (fun h7 => ?_)
        · refine mj_iconst (pc := 44) (v := (1 : Int32)) (by decide) dd_M_itemOf_44 ?_
          refine mj_goto (pc := 45) (tgt := 69) dd_M_itemOf_45 rfl ?_
          exact mj_iret dd_M_itemOf_69 rfl rfl
        · refine mj_iload_n (pc := 48) (i := 1) rfl dd_M_itemOf_48 ?_
          refine mj_bipush (pc := 49) (v := (97 : Int32)) (by decide) dd_M_itemOf_49 ?_
          refine mj_icmp_ne (pc := 51) (tgt := 58) dd_M_itemOf_51 rfl (fun h8 => ?_) (fun h8 => ?_)
          · refine mj_iconst (pc := 54) (v := (2 : Int32)) (by decide) dd_M_itemOf_54 ?_
            refine mj_goto (pc := 55) (tgt := 69) dd_M_itemOf_55 rfl ?_
            exact mj_iret dd_M_itemOf_69 rfl rfl
          · refine mj_iload_n (pc := 58) (i := 1) rfl dd_M_itemOf_58 ?_
            refine mj_bipush (pc := 59) (v := (111 : Int32)) (by decide) dd_M_itemOf_59 ?_
            refine mj_icmp_ne (pc := 61) (tgt := 68) dd_M_itemOf_61 rfl (fun h9 => ?_) (fun h9 => ?_)
            · refine mj_iconst (pc := 64) (v := (3 : Int32)) (by decide) dd_M_itemOf_64 ?_
              refine mj_goto (pc := 65) (tgt := 69) dd_M_itemOf_65 rfl ?_
              exact mj_iret dd_M_itemOf_69 rfl rfl
            · refine mj_iconst (pc := 68) (v := (-1 : Int32)) (by decide) dd_M_itemOf_68 ?_
              exact mj_iret dd_M_itemOf_69 rfl rfl
    · refine mj_lswD (pc := 1) (tgt := 102) (ps := #[(104, 69), (115, 27)]) (mj_k1 (mj_ni (k := (104 : Int32)) (n := 104) (by decide) h1) (mj_k1 (mj_ni (k := (115 : Int32)) (n := 115) (by decide) h5) mj_k0)) dd_M_itemOf_1 (by decide) rfl ?_
      refine mj_iload_n (pc := 102) (i := 1) rfl dd_M_itemOf_102 ?_
      refine mj_bipush (pc := 103) (v := (108 : Int32)) (by decide) dd_M_itemOf_103 ?_
      refine mj_icmp_ne (pc := 105) (tgt := 112) dd_M_itemOf_105 rfl (fun h10 => ?_) (fun h10 => ?_)
      · refine mj_iconst (pc := 108) (v := (0 : Int32)) (by decide) dd_M_itemOf_108 ?_
        refine mj_goto (pc := 109) (tgt := 133) dd_M_itemOf_109 rfl ?_
        exact mj_iret dd_M_itemOf_133 rfl rfl
      · refine mj_iload_n (pc := 112) (i := 1) rfl dd_M_itemOf_112 ?_
        refine mj_bipush (pc := 113) (v := (107 : Int32)) (by decide) dd_M_itemOf_113 ?_
        refine mj_icmp_ne (pc := 115) (tgt := 122) dd_M_itemOf_115 rfl (fun h11 => ?_) (fun h11 => ?_)
        · refine mj_iconst (pc := 118) (v := (1 : Int32)) (by decide) dd_M_itemOf_118 ?_
          refine mj_goto (pc := 119) (tgt := 133) dd_M_itemOf_119 rfl ?_
          exact mj_iret dd_M_itemOf_133 rfl rfl
        · refine mj_iload_n (pc := 122) (i := 1) rfl dd_M_itemOf_122 ?_
          refine mj_bipush (pc := 123) (v := (114 : Int32)) (by decide) dd_M_itemOf_123 ?_
          refine mj_icmp_ne (pc := 125) (tgt := 132) dd_M_itemOf_125 rfl (fun h12 => ?_) (fun h12 => ?_)
          · refine mj_iconst (pc := 128) (v := (2 : Int32)) (by decide) dd_M_itemOf_128 ?_
            refine mj_goto (pc := 129) (tgt := 133) dd_M_itemOf_129 rfl ?_
            exact mj_iret dd_M_itemOf_133 rfl rfl
          · refine mj_iconst (pc := 132) (v := (-1 : Int32)) (by decide) dd_M_itemOf_132 ?_
            exact mj_iret dd_M_itemOf_133 rfl rfl
def F_M_has (x0 : Int32) (x1 : Int32) (M : mj_M) : Option (Int32 × mj_M) :=
    if ((x0 >>> (x1 &&& 31)) &&& (1 : Int32)) = (1 : Int32) then
     (some ((1 : Int32), M))
     else
     (some ((0 : Int32), M))
set_option maxRecDepth 20000 in
theorem T_M_has {g : mj_G} : ∀ d, 1 ≤ d → ∀ (x0 : Int32) (x1 : Int32) (M : mj_M), mj_Mt g (mj_qI g) d y_M_has c_M_has 2 (some .boolean) [.int x0, .int x1] M (F_M_has x0 x1 M) := by
  intro d hd x0 x1 M
  obtain ⟨e, rfl⟩ : ∃ e, d = e + 1 := ⟨d - 1, by omega⟩
  have he : 0 ≤ e := by omega
  refine mj_met (by decide +kernel) (Nat.le_of_ble_eq_true rfl) ?_
  unfold F_M_has
  refine mj_L (L' := [(0, .int x0), (1, .int x1)]) [0, 1] rfl ?_
  refine mj_iload_n (pc := 0) (i := 0) rfl dd_M_has_0 ?_
  refine mj_iload_n (pc := 1) (i := 1) rfl dd_M_has_1 ?_
  refine mj_ishr (pc := 2) dd_M_has_2 ?_
  refine mj_iconst (pc := 3) (v := (1 : Int32)) (by decide) dd_M_has_3 ?_
  refine mj_iand (pc := 4) dd_M_has_4 ?_
  refine mj_iconst (pc := 5) (v := (1 : Int32)) (by decide) dd_M_has_5 ?_
  refine mj_icmp_ne (pc := 6) (tgt := 13) dd_M_has_6 rfl (fun h1 => ?_) (fun h1 => ?_)
  · refine mj_iconst (pc := 9) (v := (1 : Int32)) (by decide) dd_M_has_9 ?_
    refine mj_goto (pc := 10) (tgt := 14) dd_M_has_10 rfl ?_
    exact mj_zret (by decide) dd_M_has_14 rfl rfl
  · refine mj_iconst (pc := 13) (v := (0 : Int32)) (by decide) dd_M_has_13 ?_
    exact mj_zret (by decide) dd_M_has_14 rfl rfl
theorem B_M_has {x0 : Int32} {x1 : Int32} {M : mj_M} {q : Int32 × mj_M} (h : F_M_has x0 x1 M = some q) : q.1 = 0 ∨ q.1 = 1 := by
  unfold F_M_has at h
  (repeat' split at h) <;> (cases h; first | exact Or.inl rfl | exact Or.inr rfl)
def F_M_highest (x0 : Int32) (x1 : Int32) (M : mj_M) : Option (Int32 × mj_M) :=
    if x0 = (104 : Int32) then
     (if x1 = (0) then
     (some ((63 : Int32), M))
     else
     (some ((9 : Int32), M)))
     else
     (if x0 = (115 : Int32) then
     (if x1 = (0) then
     (some ((99 : Int32), M))
     else
     (if x1 = (1 : Int32) then
     (some ((63 : Int32), M))
     else
     (if x1 = (2 : Int32) then
     (some ((5 : Int32), M))
     else
     (some ((9 : Int32), M)))))
     else
     (if x1 = (2 : Int32) then
     (some ((1 : Int32), M))
     else
     (some ((9 : Int32), M))))
set_option maxRecDepth 20000 in
theorem T_M_highest {g : mj_G} : ∀ d, 1 ≤ d → ∀ (x0 : Int32) (x1 : Int32) (M : mj_M), mj_Mt g (mj_qI g) d y_M_highest c_M_highest 2 (some .int) [.int x0, .int x1] M (F_M_highest x0 x1 M) := by
  intro d hd x0 x1 M
  obtain ⟨e, rfl⟩ : ∃ e, d = e + 1 := ⟨d - 1, by omega⟩
  have he : 0 ≤ e := by omega
  refine mj_met (by decide +kernel) (Nat.le_of_ble_eq_true rfl) ?_
  unfold F_M_highest
  refine mj_L (L' := [(0, .int x0), (1, .int x1)]) [0, 1] rfl ?_
  refine mj_iload_n (pc := 0) (i := 0) rfl dd_M_highest_0 ?_
  refine mj_ife (fun h1 => ?_) (fun h1 => ?_)
  · refine mj_lswK (pc := 1) (tgt := 59) (k := (104 : Int32)) (off := 58) h1 dd_M_highest_1 (by decide) (by decide) rfl ?_
    refine mj_iload_n (pc := 59) (i := 1) rfl dd_M_highest_59 ?_
    refine mj_if_ne (pc := 60) (tgt := 68) dd_M_highest_60 rfl (fun h2 => ?_) (fun h2 => ?_)
    · refine mj_bipush (pc := 63) (v := (63 : Int32)) (by decide) dd_M_highest_63 ?_
      refine mj_goto (pc := 65) (tgt := 70) dd_M_highest_65 rfl ?_
      exact mj_iret dd_M_highest_70 rfl rfl
    · refine mj_bipush (pc := 68) (v := (9 : Int32)) (by decide) dd_M_highest_68 ?_
      exact mj_iret dd_M_highest_70 rfl rfl
  · refine mj_ife (fun h3 => ?_) (fun h3 => ?_)
    · refine mj_lswK (pc := 1) (tgt := 28) (k := (115 : Int32)) (off := 27) h3 dd_M_highest_1 (by decide) (by decide) rfl ?_
      refine mj_iload_n (pc := 28) (i := 1) rfl dd_M_highest_28 ?_
      refine mj_if_ne (pc := 29) (tgt := 37) dd_M_highest_29 rfl (fun h4 => ?_) (fun h4 => ?_)
      · refine mj_bipush (pc := 32) (v := (99 : Int32)) (by decide) dd_M_highest_32 ?_
        refine mj_goto (pc := 34) (tgt := 58) dd_M_highest_34 rfl ?_
        exact mj_iret dd_M_highest_58 rfl rfl
      · refine mj_iload_n (pc := 37) (i := 1) rfl dd_M_highest_37 ?_
        refine mj_iconst (pc := 38) (v := (1 : Int32)) (by decide) dd_M_highest_38 ?_
        refine mj_icmp_ne (pc := 39) (tgt := 47) dd_M_highest_39 rfl (fun h5 => ?_) (fun h5 => ?_)
        · refine mj_bipush (pc := 42) (v := (63 : Int32)) (by decide) dd_M_highest_42 ?_
          refine mj_goto (pc := 44) (tgt := 58) dd_M_highest_44 rfl ?_
          exact mj_iret dd_M_highest_58 rfl rfl
        · refine mj_iload_n (pc := 47) (i := 1) rfl dd_M_highest_47 ?_
          refine mj_iconst (pc := 48) (v := (2 : Int32)) (by decide) dd_M_highest_48 ?_
          refine mj_icmp_ne (pc := 49) (tgt := 56) dd_M_highest_49 rfl (fun h6 => ?_) (fun h6 => ?_)
          · refine mj_iconst (pc := 52) (v := (5 : Int32)) (by decide) dd_M_highest_52 ?_
            refine mj_goto (pc := 53) (tgt := 58) dd_M_highest_53 rfl ?_
            exact mj_iret dd_M_highest_58 rfl rfl
          · refine mj_bipush (pc := 56) (v := (9 : Int32)) (by decide) dd_M_highest_56 ?_
            exact mj_iret dd_M_highest_58 rfl rfl
    · refine mj_lswD (pc := 1) (tgt := 71) (ps := #[(104, 58), (115, 27)]) (mj_k1 (mj_ni (k := (104 : Int32)) (n := 104) (by decide) h1) (mj_k1 (mj_ni (k := (115 : Int32)) (n := 115) (by decide) h3) mj_k0)) dd_M_highest_1 (by decide) rfl ?_
      refine mj_iload_n (pc := 71) (i := 1) rfl dd_M_highest_71 ?_
      refine mj_iconst (pc := 72) (v := (2 : Int32)) (by decide) dd_M_highest_72 ?_
      refine mj_icmp_ne (pc := 73) (tgt := 80) dd_M_highest_73 rfl (fun h7 => ?_) (fun h7 => ?_)
      · refine mj_iconst (pc := 76) (v := (1 : Int32)) (by decide) dd_M_highest_76 ?_
        refine mj_goto (pc := 77) (tgt := 82) dd_M_highest_77 rfl ?_
        exact mj_iret dd_M_highest_82 rfl rfl
      · refine mj_bipush (pc := 80) (v := (9 : Int32)) (by decide) dd_M_highest_80 ?_
        exact mj_iret dd_M_highest_82 rfl rfl
def F_M_in (x0 : Int32) (x1 : Int32) (x2 : Int32) (M : mj_M) : Option (Int32 × mj_M) :=
    if x0 < x1 then
     (some ((0 : Int32), M))
     else
     (if x2 < x0 then
     (some ((0 : Int32), M))
     else
     (some ((1 : Int32), M)))
set_option maxRecDepth 20000 in
theorem T_M_in {g : mj_G} : ∀ d, 1 ≤ d → ∀ (x0 : Int32) (x1 : Int32) (x2 : Int32) (M : mj_M), mj_Mt g (mj_qI g) d y_M_in c_M_in 3 (some .boolean) [.int x0, .int x1, .int x2] M (F_M_in x0 x1 x2 M) := by
  intro d hd x0 x1 x2 M
  obtain ⟨e, rfl⟩ : ∃ e, d = e + 1 := ⟨d - 1, by omega⟩
  have he : 0 ≤ e := by omega
  refine mj_met (by decide +kernel) (Nat.le_of_ble_eq_true rfl) ?_
  unfold F_M_in
  refine mj_L (L' := [(0, .int x0), (1, .int x1), (2, .int x2)]) [0, 1, 2] rfl ?_
  refine mj_iload_n (pc := 0) (i := 0) rfl dd_M_in_0 ?_
  refine mj_iload_n (pc := 1) (i := 1) rfl dd_M_in_1 ?_
  refine mj_icmp_lt (pc := 2) (tgt := 14) dd_M_in_2 rfl (fun h1 => ?_) (fun h1 => ?_)
  · refine mj_iconst (pc := 14) (v := (0 : Int32)) (by decide) dd_M_in_14 ?_
    exact mj_zret (by decide) dd_M_in_15 rfl rfl
  · refine mj_iload_n (pc := 5) (i := 0) rfl dd_M_in_5 ?_
    refine mj_iload_n (pc := 6) (i := 2) rfl dd_M_in_6 ?_
    refine mj_icmp_gt (pc := 7) (tgt := 14) dd_M_in_7 rfl (fun h2 => ?_) (fun h2 => ?_)
    · refine mj_iconst (pc := 14) (v := (0 : Int32)) (by decide) dd_M_in_14 ?_
      exact mj_zret (by decide) dd_M_in_15 rfl rfl
    · refine mj_iconst (pc := 10) (v := (1 : Int32)) (by decide) dd_M_in_10 ?_
      refine mj_goto (pc := 11) (tgt := 15) dd_M_in_11 rfl ?_
      exact mj_zret (by decide) dd_M_in_15 rfl rfl
theorem B_M_in {x0 : Int32} {x1 : Int32} {x2 : Int32} {M : mj_M} {q : Int32 × mj_M} (h : F_M_in x0 x1 x2 M = some q) : q.1 = 0 ∨ q.1 = 1 := by
  unfold F_M_in at h
  (repeat' split at h) <;> (cases h; first | exact Or.inl rfl | exact Or.inr rfl)
def F_M_number_b67 (N : Nat) (x1 : Int32) (x2 : Int32) (x3 : Int32) (M : mj_M) : Option (Int32 × mj_M) :=
    (F_M_here M).bind (fun q14 =>
     (F_M_isDigit q14.1 q14.2).bind (fun q15 =>
     if q15.1 = (0) then
     ((F_M_in x3 x1 x2 q15.2).bind (fun q17 =>
     if q17.1 = (0) then
     (mj_lt (mj_u q17.2 48 3 ((q17.2 48 3) - (1 : Int32))) (fun M19 =>
     (F_M_bad M19).bind (fun q20 =>
     some (x3, q20))))
     else
     (some (x3, q17.2))))
     else
     ((F_M_bad q15.2).bind (fun q21 =>
     some (x3, q21)))))
set_option maxRecDepth 20000 in
theorem T_M_number_b67 {g : mj_G} (N : Nat) (e : Nat) (he : 2 ≤ e) (x1 : Int32) (x2 : Int32) (x3 : Int32) (M : mj_M) : mj_X g (mj_qI g) "WinterTellersModel" c_M_number 4 (some .int) e 67 [(0, .ref 48), (1, .int x1), (2, .int x2), (3, .int x3)] [] M (F_M_number_b67 N x1 x2 x3 M) := by
  unfold F_M_number_b67
  refine mj_aload_n (pc := 67) (i := 0) rfl dd_M_number_67 ?_
  refine mj_callVI (pc := 68) (idx := 103) (b := 48) (As := []) (st := []) sh_48 cl_12 ev_M_here ql_M_103 rfl (Nat.le_of_ble_eq_true rfl) (T_M_here (g := g) e (by omega) M) dd_M_number_68 (fun q14 hq14 => ?_)
  refine mj_callSI (pc := 71) (idx := 122) (As := [.int q14.1]) (st := []) es_M_isDigit ql_M_122 rfl (Nat.le_of_ble_eq_true rfl) (T_M_isDigit (g := g) e (by omega) q14.1 q14.2) dd_M_number_71 (fun q15 hq15 => ?_)
  refine mj_if_eq (pc := 74) (tgt := 84) dd_M_number_74 rfl (fun h16 => ?_) (fun h16 => ?_)
  · refine mj_iload_n (pc := 84) (i := 3) rfl dd_M_number_84 ?_
    refine mj_iload_n (pc := 85) (i := 1) rfl dd_M_number_85 ?_
    refine mj_iload_n (pc := 86) (i := 2) rfl dd_M_number_86 ?_
    refine mj_callSI (pc := 87) (idx := 205) (As := [.int x3, .int x1, .int x2]) (st := []) es_M_in ql_M_205 rfl (Nat.le_of_ble_eq_true rfl) (T_M_in (g := g) e (by omega) x3 x1 x2 q15.2) dd_M_number_87 (fun q17 hq17 => ?_)
    refine mj_if_ne (pc := 90) (tgt := 107) dd_M_number_90 rfl (fun h18 => ?_) (fun h18 => ?_)
    · refine mj_aload_n (pc := 93) (i := 0) rfl dd_M_number_93 ?_
      refine mj_dup (pc := 94) rfl dd_M_number_94 ?_
      refine mj_getI (pc := 95) (b := 48) (k := 3) qf_M_100 sh_48 cl_12 rfl (by decide) rfl dd_M_number_95 ?_
      refine mj_iconst (pc := 98) (v := (1 : Int32)) (by decide) dd_M_number_98 ?_
      refine mj_isub (pc := 99) dd_M_number_99 ?_
      refine mj_putI (pc := 100) (b := 48) (k := 3) qf_M_100 sh_48 cl_12 rfl (by decide) (by decide) rfl rfl rfl dd_M_number_100 (fun M19 _ => ?_)
      refine mj_aload_n (pc := 103) (i := 0) rfl dd_M_number_103 ?_
      refine mj_callVV (pc := 104) (idx := 116) (b := 48) (As := []) (st := []) sh_48 cl_12 ev_M_bad ql_M_116 rfl (Nat.le_of_ble_eq_true rfl) (T_M_bad (g := g) e (by omega) M19) dd_M_number_104 (fun q20 hq20 => ?_)
      refine mj_iload_n (pc := 107) (i := 3) rfl dd_M_number_107 ?_
      exact mj_iret dd_M_number_108 rfl rfl
    · refine mj_iload_n (pc := 107) (i := 3) rfl dd_M_number_107 ?_
      exact mj_iret dd_M_number_108 rfl rfl
  · refine mj_aload_n (pc := 77) (i := 0) rfl dd_M_number_77 ?_
    refine mj_callVV (pc := 78) (idx := 116) (b := 48) (As := []) (st := []) sh_48 cl_12 ev_M_bad ql_M_116 rfl (Nat.le_of_ble_eq_true rfl) (T_M_bad (g := g) e (by omega) q15.2) dd_M_number_78 (fun q21 hq21 => ?_)
    refine mj_goto (pc := 81) (tgt := 107) dd_M_number_81 rfl ?_
    refine mj_iload_n (pc := 107) (i := 3) rfl dd_M_number_107 ?_
    exact mj_iret dd_M_number_108 rfl rfl
def F_M_number (N : Nat) (x1 : Int32) (x2 : Int32) (M : mj_M) : Option (Int32 × mj_M) :=
    (F_M_look N M).bind (fun q1 =>
     (F_M_isDigit q1.1 q1.2).bind (fun q2 =>
     if q2.1 = (0) then
     ((F_M_bad q2.2).bind (fun q13 =>
     some (x1, q13)))
     else
     ((F_M_here q2.2).bind (fun q4 =>
     mj_lt (q4.1 - (48 : Int32)) (fun v5 =>
     mj_lt (mj_u q4.2 48 3 ((q4.2 48 3) + (1 : Int32))) (fun M6 =>
     (F_M_here M6).bind (fun q7 =>
     (F_M_isDigit q7.1 q7.2).bind (fun q8 =>
     if q8.1 = (0) then
     (F_M_number_b67 N x1 x2 v5 q8.2)
     else
     ((F_M_here q8.2).bind (fun q10 =>
     mj_lt ((((10 : Int32) * v5) + q10.1) - (48 : Int32)) (fun v11 =>
     mj_lt (mj_u q10.2 48 3 ((q10.2 48 3) + (1 : Int32))) (fun M12 =>
     F_M_number_b67 N x1 x2 v11 M12))))))))))))
set_option maxRecDepth 20000 in
theorem T_M_number {g : mj_G} (N : Nat) : ∀ d, 3 ≤ d → ∀ (x1 : Int32) (x2 : Int32) (M : mj_M), mj_Mt g (mj_qI g) d y_M_number c_M_number 4 (some .int) [.ref 48, .int x1, .int x2] M (F_M_number N x1 x2 M) := by
  intro d hd x1 x2 M
  obtain ⟨e, rfl⟩ : ∃ e, d = e + 1 := ⟨d - 1, by omega⟩
  have he : 2 ≤ e := by omega
  refine mj_met (by decide +kernel) (Nat.le_of_ble_eq_true rfl) ?_
  unfold F_M_number
  refine mj_L (L' := [(0, .ref 48), (1, .int x1), (2, .int x2)]) [0, 1, 2] rfl ?_
  refine mj_aload_n (pc := 0) (i := 0) rfl dd_M_number_0 ?_
  refine mj_callVI (pc := 1) (idx := 119) (b := 48) (As := []) (st := []) sh_48 cl_12 ev_M_look ql_M_119 rfl (Nat.le_of_ble_eq_true rfl) (T_M_look (g := g) N e (by omega) M) dd_M_number_1 (fun q1 hq1 => ?_)
  refine mj_callSI (pc := 4) (idx := 122) (As := [.int q1.1]) (st := []) es_M_isDigit ql_M_122 rfl (Nat.le_of_ble_eq_true rfl) (T_M_isDigit (g := g) e (by omega) q1.1 q1.2) dd_M_number_4 (fun q2 hq2 => ?_)
  refine mj_if_ne (pc := 7) (tgt := 16) dd_M_number_7 rfl (fun h3 => ?_) (fun h3 => ?_)
  · refine mj_aload_n (pc := 10) (i := 0) rfl dd_M_number_10 ?_
    refine mj_callVV (pc := 11) (idx := 116) (b := 48) (As := []) (st := []) sh_48 cl_12 ev_M_bad ql_M_116 rfl (Nat.le_of_ble_eq_true rfl) (T_M_bad (g := g) e (by omega) q2.2) dd_M_number_11 (fun q13 hq13 => ?_)
    refine mj_iload_n (pc := 14) (i := 1) rfl dd_M_number_14 ?_
    exact mj_iret dd_M_number_15 rfl rfl
  · refine mj_aload_n (pc := 16) (i := 0) rfl dd_M_number_16 ?_
    refine mj_callVI (pc := 17) (idx := 103) (b := 48) (As := []) (st := []) sh_48 cl_12 ev_M_here ql_M_103 rfl (Nat.le_of_ble_eq_true rfl) (T_M_here (g := g) e (by omega) q2.2) dd_M_number_17 (fun q4 hq4 => ?_)
    refine mj_bipush (pc := 20) (v := (48 : Int32)) (by decide) dd_M_number_20 ?_
    refine mj_isub (pc := 22) dd_M_number_22 ?_
    refine mj_istore_nL (pc := 23) (by decide) dd_M_number_23 (fun v5 _ => ?_)
    refine mj_L (L' := [(3, .int v5), (0, .ref 48), (1, .int x1), (2, .int x2)]) [0, 1, 2, 3] rfl ?_
    refine mj_aload_n (pc := 24) (i := 0) rfl dd_M_number_24 ?_
    refine mj_dup (pc := 25) rfl dd_M_number_25 ?_
    refine mj_getI (pc := 26) (b := 48) (k := 3) qf_M_100 sh_48 cl_12 rfl (by decide) rfl dd_M_number_26 ?_
    refine mj_iconst (pc := 29) (v := (1 : Int32)) (by decide) dd_M_number_29 ?_
    refine mj_iadd (pc := 30) dd_M_number_30 ?_
    refine mj_putI (pc := 31) (b := 48) (k := 3) qf_M_100 sh_48 cl_12 rfl (by decide) (by decide) rfl rfl rfl dd_M_number_31 (fun M6 _ => ?_)
    refine mj_aload_n (pc := 34) (i := 0) rfl dd_M_number_34 ?_
    refine mj_callVI (pc := 35) (idx := 103) (b := 48) (As := []) (st := []) sh_48 cl_12 ev_M_here ql_M_103 rfl (Nat.le_of_ble_eq_true rfl) (T_M_here (g := g) e (by omega) M6) dd_M_number_35 (fun q7 hq7 => ?_)
    refine mj_callSI (pc := 38) (idx := 122) (As := [.int q7.1]) (st := []) es_M_isDigit ql_M_122 rfl (Nat.le_of_ble_eq_true rfl) (T_M_isDigit (g := g) e (by omega) q7.1 q7.2) dd_M_number_38 (fun q8 hq8 => ?_)
    refine mj_if_eq (pc := 41) (tgt := 67) dd_M_number_41 rfl (fun h9 => ?_) (fun h9 => ?_)
    · refine mj_L (L' := [(0, .ref 48), (1, .int x1), (2, .int x2), (3, .int v5)]) [1, 2, 3, 0] rfl ?_
      exact T_M_number_b67 (g := g) N e he x1 x2 v5 q8.2
    · refine mj_bipush (pc := 44) (v := (10 : Int32)) (by decide) dd_M_number_44 ?_
      refine mj_iload_n (pc := 46) (i := 3) rfl dd_M_number_46 ?_
      refine mj_imul (pc := 47) dd_M_number_47 ?_
      refine mj_aload_n (pc := 48) (i := 0) rfl dd_M_number_48 ?_
      refine mj_callVI (pc := 49) (idx := 103) (b := 48) (As := []) (st := [.int ((10 : Int32) * v5)]) sh_48 cl_12 ev_M_here ql_M_103 rfl (Nat.le_of_ble_eq_true rfl) (T_M_here (g := g) e (by omega) q8.2) dd_M_number_49 (fun q10 hq10 => ?_)
      refine mj_iadd (pc := 52) dd_M_number_52 ?_
      refine mj_bipush (pc := 53) (v := (48 : Int32)) (by decide) dd_M_number_53 ?_
      refine mj_isub (pc := 55) dd_M_number_55 ?_
      refine mj_istore_nL (pc := 56) (by decide) dd_M_number_56 (fun v11 _ => ?_)
      refine mj_L (L' := [(3, .int v11), (0, .ref 48), (1, .int x1), (2, .int x2)]) [0, 1, 2, 3] rfl ?_
      refine mj_aload_n (pc := 57) (i := 0) rfl dd_M_number_57 ?_
      refine mj_dup (pc := 58) rfl dd_M_number_58 ?_
      refine mj_getI (pc := 59) (b := 48) (k := 3) qf_M_100 sh_48 cl_12 rfl (by decide) rfl dd_M_number_59 ?_
      refine mj_iconst (pc := 62) (v := (1 : Int32)) (by decide) dd_M_number_62 ?_
      refine mj_iadd (pc := 63) dd_M_number_63 ?_
      refine mj_putI (pc := 64) (b := 48) (k := 3) qf_M_100 sh_48 cl_12 rfl (by decide) (by decide) rfl rfl rfl dd_M_number_64 (fun M12 _ => ?_)
      refine mj_L (L' := [(0, .ref 48), (1, .int x1), (2, .int x2), (3, .int v11)]) [1, 2, 3, 0] rfl ?_
      exact T_M_number_b67 (g := g) N e he x1 x2 v11 M12
def F_M_items_c59_b106 (N : Nat) (k41 : Int32 → Int32 → Int32 → Int32 → mj_M → Option (mj_M)) (x1 : Int32) (x3 : Int32) (x5 : Int32) (x6 : Int32) (s1 : Int32) (s3 : Int32) (M : mj_M) : Option (mj_M) :=
    (F_M_highest x1 x6 M).bind (fun q14 =>
     (F_M_number N s3 q14.1 q14.2).bind (fun q15 =>
     mj_ck s1 4 (mj_lt (mj_u q15.2 59 s1.toNatClampNeg q15.1) (fun M16 =>
     if (M16 48 4) = (-1 : Int32) then
     ((F_M_look N M16).bind (fun q18 =>
     (F_M_itemOf x1 q18.1 q18.2).bind (fun q19 =>
     k41 x1 x3 x5 q19.1 q19.2)))
     else
     (k41 x1 x3 x5 (-1 : Int32) M16)))))
set_option maxRecDepth 20000 in
theorem T_M_items_c59_b106 {g : mj_G} (N : Nat) (e : Nat) (he : 3 ≤ e) (k41 : Int32 → Int32 → Int32 → Int32 → mj_M → Option (mj_M)) (hk41 : ∀ (x1 : Int32) (x3 : Int32) (x5 : Int32) (x6 : Int32) (M : mj_M), mj_X g (mj_qV g) "WinterTellersModel" c_M_items 7 none e 41 [(0, .ref 48), (1, .int x1), (2, .ref 59), (3, .int x3), (5, .int x5), (6, .int x6)] [] M (k41 x1 x3 x5 x6 M)) (x1 : Int32) (x3 : Int32) (x5 : Int32) (x6 : Int32) (s1 : Int32) (s3 : Int32) (M : mj_M) : mj_X g (mj_qV g) "WinterTellersModel" c_M_items 7 none e 106 [(0, .ref 48), (1, .int x1), (2, .ref 59), (3, .int x3), (5, .int x5), (6, .int x6)] [.int s3, .ref 48, .int s1, .ref 59] M (F_M_items_c59_b106 N k41 x1 x3 x5 x6 s1 s3 M) := by
  unfold F_M_items_c59_b106
  refine mj_iload_n (pc := 106) (i := 1) rfl dd_M_items_106 ?_
  refine mj_iload (pc := 107) (i := 6) rfl dd_M_items_107 ?_
  refine mj_callSI (pc := 109) (idx := 220) (As := [.int x1, .int x6]) (st := [.int s3, .ref 48, .int s1, .ref 59]) es_M_highest ql_M_220 rfl (Nat.le_of_ble_eq_true rfl) (T_M_highest (g := g) e (by omega) x1 x6 M) dd_M_items_109 (fun q14 hq14 => ?_)
  refine mj_callVI (pc := 112) (idx := 223) (b := 48) (As := [.int s3, .int q14.1]) (st := [.int s1, .ref 59]) sh_48 cl_12 ev_M_number ql_M_223 rfl (Nat.le_of_ble_eq_true rfl) (T_M_number (g := g) N e (by omega) s3 q14.1 q14.2) dd_M_items_112 (fun q15 hq15 => ?_)
  refine mj_iast (pc := 115) sh_59 dd_M_items_115 (fun M16 _ => ?_)
  refine mj_aload_n (pc := 116) (i := 0) rfl dd_M_items_116 ?_
  refine mj_getI (pc := 117) (b := 48) (k := 4) qf_M_107 sh_48 cl_12 rfl (by decide) rfl dd_M_items_117 ?_
  refine mj_iconst (pc := 120) (v := (-1 : Int32)) (by decide) dd_M_items_120 ?_
  refine mj_icmp_ne (pc := 121) (tgt := 135) dd_M_items_121 rfl (fun h17 => ?_) (fun h17 => ?_)
  · refine mj_iload_n (pc := 124) (i := 1) rfl dd_M_items_124 ?_
    refine mj_aload_n (pc := 125) (i := 0) rfl dd_M_items_125 ?_
    refine mj_callVI (pc := 126) (idx := 119) (b := 48) (As := []) (st := [.int x1]) sh_48 cl_12 ev_M_look ql_M_119 rfl (Nat.le_of_ble_eq_true rfl) (T_M_look (g := g) N e (by omega) M16) dd_M_items_126 (fun q18 hq18 => ?_)
    refine mj_callSI (pc := 129) (idx := 213) (As := [.int x1, .int q18.1]) (st := []) es_M_itemOf ql_M_213 rfl (Nat.le_of_ble_eq_true rfl) (T_M_itemOf (g := g) e (by omega) x1 q18.1 q18.2) dd_M_items_129 (fun q19 hq19 => ?_)
    refine mj_goto (pc := 132) (tgt := 136) dd_M_items_132 rfl ?_
    refine mj_istore (pc := 136) (by decide) dd_M_items_136 ?_
    refine mj_L (L' := [(6, .int q19.1), (0, .ref 48), (1, .int x1), (2, .ref 59), (3, .int x3), (5, .int x5)]) [0, 1, 2, 3, 4, 5] rfl ?_
    refine mj_goto (pc := 138) (tgt := 41) dd_M_items_138 rfl ?_
    refine mj_L (L' := [(0, .ref 48), (1, .int x1), (2, .ref 59), (3, .int x3), (5, .int x5), (6, .int q19.1)]) [1, 2, 3, 4, 5, 0] rfl ?_
    exact hk41 x1 x3 x5 q19.1 q19.2
  · refine mj_iconst (pc := 135) (v := (-1 : Int32)) (by decide) dd_M_items_135 ?_
    refine mj_istore (pc := 136) (by decide) dd_M_items_136 ?_
    refine mj_L (L' := [(6, .int (-1 : Int32)), (0, .ref 48), (1, .int x1), (2, .ref 59), (3, .int x3), (5, .int x5)]) [0, 1, 2, 3, 4, 5] rfl ?_
    refine mj_goto (pc := 138) (tgt := 41) dd_M_items_138 rfl ?_
    refine mj_L (L' := [(0, .ref 48), (1, .int x1), (2, .ref 59), (3, .int x3), (5, .int x5), (6, .int (-1 : Int32))]) [1, 2, 3, 4, 5, 0] rfl ?_
    exact hk41 x1 x3 x5 (-1 : Int32) M16
def F_M_items_c59_b105 (N : Nat) (k41 : Int32 → Int32 → Int32 → Int32 → mj_M → Option (mj_M)) (x1 : Int32) (x3 : Int32) (x5 : Int32) (x6 : Int32) (s1 : Int32) (M : mj_M) : Option (mj_M) :=
    F_M_items_c59_b106 N k41 x1 x3 x5 x6 s1 (0 : Int32) M
set_option maxRecDepth 20000 in
theorem T_M_items_c59_b105 {g : mj_G} (N : Nat) (e : Nat) (he : 3 ≤ e) (k41 : Int32 → Int32 → Int32 → Int32 → mj_M → Option (mj_M)) (hk41 : ∀ (x1 : Int32) (x3 : Int32) (x5 : Int32) (x6 : Int32) (M : mj_M), mj_X g (mj_qV g) "WinterTellersModel" c_M_items 7 none e 41 [(0, .ref 48), (1, .int x1), (2, .ref 59), (3, .int x3), (5, .int x5), (6, .int x6)] [] M (k41 x1 x3 x5 x6 M)) (x1 : Int32) (x3 : Int32) (x5 : Int32) (x6 : Int32) (s1 : Int32) (M : mj_M) : mj_X g (mj_qV g) "WinterTellersModel" c_M_items 7 none e 105 [(0, .ref 48), (1, .int x1), (2, .ref 59), (3, .int x3), (5, .int x5), (6, .int x6)] [.ref 48, .int s1, .ref 59] M (F_M_items_c59_b105 N k41 x1 x3 x5 x6 s1 M) := by
  unfold F_M_items_c59_b105
  refine mj_iconst (pc := 105) (v := (0 : Int32)) (by decide) dd_M_items_105 ?_
  refine mj_L (L' := [(0, .ref 48), (1, .int x1), (2, .ref 59), (3, .int x3), (5, .int x5), (6, .int x6)]) [0, 1, 2, 3, 4, 5] rfl ?_
  exact T_M_items_c59_b106 (g := g) N e he k41 hk41 x1 x3 x5 x6 s1 (0 : Int32) M
def F_M_items_c59_b41 (N : Nat) : Nat → Int32 → Int32 → Int32 → Int32 → mj_M → Option (mj_M)
  | 0, _, _, _, _, _ => none
  | n + 1, x1, x3, x5, x6, M =>
    if (M 48 4) = (-1 : Int32) then
     (if x6 = (-1 : Int32) then
     (some M)
     else
     ((F_M_has x5 x6 M).bind (fun q8 =>
     if q8.1 = (0) then
     (mj_lt (x5 ||| ((1 : Int32) <<< (x6 &&& 31))) (fun v10 =>
     mj_lt (mj_u q8.2 48 3 ((q8.2 48 3) + (1 : Int32))) (fun M11 =>
     if x1 = (116 : Int32) then
     (if x6 = (0) then
     (F_M_items_c59_b106 N (F_M_items_c59_b41 N n) x1 x3 v10 x6 (x3 + x6) (1 : Int32) M11)
     else
     (F_M_items_c59_b105 N (F_M_items_c59_b41 N n) x1 x3 v10 x6 (x3 + x6) M11))
     else
     (F_M_items_c59_b105 N (F_M_items_c59_b41 N n) x1 x3 v10 x6 (x3 + x6) M11))))
     else
     (some q8.2))))
     else
     (some M)
set_option maxRecDepth 20000 in
theorem T_M_items_c59_b41 {g : mj_G} (N : Nat) (e : Nat) (he : 3 ≤ e) : ∀ (n : Nat) (x1 : Int32) (x3 : Int32) (x5 : Int32) (x6 : Int32) (M : mj_M), mj_X g (mj_qV g) "WinterTellersModel" c_M_items 7 none e 41 [(0, .ref 48), (1, .int x1), (2, .ref 59), (3, .int x3), (5, .int x5), (6, .int x6)] [] M (F_M_items_c59_b41 N n x1 x3 x5 x6 M) := by
  intro n
  induction n with
  | zero => intro x1 x3 x5 x6 M; exact mj_none
  | succ n ih =>
    intro x1 x3 x5 x6 M
    rw [F_M_items_c59_b41]
    refine mj_aload_n (pc := 41) (i := 0) rfl dd_M_items_41 ?_
    refine mj_getI (pc := 42) (b := 48) (k := 4) qf_M_107 sh_48 cl_12 rfl (by decide) rfl dd_M_items_42 ?_
    refine mj_iconst (pc := 45) (v := (-1 : Int32)) (by decide) dd_M_items_45 ?_
    refine mj_icmp_ne (pc := 46) (tgt := 141) dd_M_items_46 rfl (fun h6 => ?_) (fun h6 => ?_)
    · refine mj_iload (pc := 49) (i := 6) rfl dd_M_items_49 ?_
      refine mj_iconst (pc := 51) (v := (-1 : Int32)) (by decide) dd_M_items_51 ?_
      refine mj_icmp_eq (pc := 52) (tgt := 141) dd_M_items_52 rfl (fun h7 => ?_) (fun h7 => ?_)
      · exact mj_vret dd_M_items_141 rfl rfl
      · refine mj_iload (pc := 55) (i := 5) rfl dd_M_items_55 ?_
        refine mj_iload (pc := 57) (i := 6) rfl dd_M_items_57 ?_
        refine mj_callSI (pc := 59) (idx := 216) (As := [.int x5, .int x6]) (st := []) es_M_has ql_M_216 rfl (Nat.le_of_ble_eq_true rfl) (T_M_has (g := g) e (by omega) x5 x6 M) dd_M_items_59 (fun q8 hq8 => ?_)
        refine mj_if_ne (pc := 62) (tgt := 141) dd_M_items_62 rfl (fun h9 => ?_) (fun h9 => ?_)
        · refine mj_iload (pc := 65) (i := 5) rfl dd_M_items_65 ?_
          refine mj_iconst (pc := 67) (v := (1 : Int32)) (by decide) dd_M_items_67 ?_
          refine mj_iload (pc := 68) (i := 6) rfl dd_M_items_68 ?_
          refine mj_ishl (pc := 70) dd_M_items_70 ?_
          refine mj_ior (pc := 71) dd_M_items_71 ?_
          refine mj_istoreL (pc := 72) (by decide) dd_M_items_72 (fun v10 _ => ?_)
          refine mj_L (L' := [(5, .int v10), (0, .ref 48), (1, .int x1), (2, .ref 59), (3, .int x3), (6, .int x6)]) [0, 1, 2, 3, 4, 5] rfl ?_
          refine mj_aload_n (pc := 74) (i := 0) rfl dd_M_items_74 ?_
          refine mj_dup (pc := 75) rfl dd_M_items_75 ?_
          refine mj_getI (pc := 76) (b := 48) (k := 3) qf_M_100 sh_48 cl_12 rfl (by decide) rfl dd_M_items_76 ?_
          refine mj_iconst (pc := 79) (v := (1 : Int32)) (by decide) dd_M_items_79 ?_
          refine mj_iadd (pc := 80) dd_M_items_80 ?_
          refine mj_putI (pc := 81) (b := 48) (k := 3) qf_M_100 sh_48 cl_12 rfl (by decide) (by decide) rfl rfl rfl dd_M_items_81 (fun M11 _ => ?_)
          refine mj_aload_n (pc := 84) (i := 2) rfl dd_M_items_84 ?_
          refine mj_iload_n (pc := 85) (i := 3) rfl dd_M_items_85 ?_
          refine mj_iload (pc := 86) (i := 6) rfl dd_M_items_86 ?_
          refine mj_iadd (pc := 88) dd_M_items_88 ?_
          refine mj_aload_n (pc := 89) (i := 0) rfl dd_M_items_89 ?_
          refine mj_iload_n (pc := 90) (i := 1) rfl dd_M_items_90 ?_
          refine mj_bipush (pc := 91) (v := (116 : Int32)) (by decide) dd_M_items_91 ?_
          refine mj_icmp_ne (pc := 93) (tgt := 105) dd_M_items_93 rfl (fun h12 => ?_) (fun h12 => ?_)
          · refine mj_iload (pc := 96) (i := 6) rfl dd_M_items_96 ?_
            refine mj_if_ne (pc := 98) (tgt := 105) dd_M_items_98 rfl (fun h13 => ?_) (fun h13 => ?_)
            · refine mj_iconst (pc := 101) (v := (1 : Int32)) (by decide) dd_M_items_101 ?_
              refine mj_goto (pc := 102) (tgt := 106) dd_M_items_102 rfl ?_
              refine mj_L (L' := [(0, .ref 48), (1, .int x1), (2, .ref 59), (3, .int x3), (5, .int v10), (6, .int x6)]) [1, 2, 3, 4, 0, 5] rfl ?_
              exact T_M_items_c59_b106 (g := g) N e he (F_M_items_c59_b41 N n) ih x1 x3 v10 x6 (x3 + x6) (1 : Int32) M11
            · refine mj_L (L' := [(0, .ref 48), (1, .int x1), (2, .ref 59), (3, .int x3), (5, .int v10), (6, .int x6)]) [1, 2, 3, 4, 0, 5] rfl ?_
              exact T_M_items_c59_b105 (g := g) N e he (F_M_items_c59_b41 N n) ih x1 x3 v10 x6 (x3 + x6) M11
          · refine mj_L (L' := [(0, .ref 48), (1, .int x1), (2, .ref 59), (3, .int x3), (5, .int v10), (6, .int x6)]) [1, 2, 3, 4, 0, 5] rfl ?_
            exact T_M_items_c59_b105 (g := g) N e he (F_M_items_c59_b41 N n) ih x1 x3 v10 x6 (x3 + x6) M11
        · exact mj_vret dd_M_items_141 rfl rfl
    · exact mj_vret dd_M_items_141 rfl rfl
def F_M_items_c59_b3 (N : Nat) : Nat → Int32 → Int32 → Int32 → Int32 → mj_M → Option (mj_M)
  | 0, _, _, _, _, _ => none
  | n + 1, x1, x3, x4, x5, M =>
    if x4 ≤ x5 then
     ((F_M_look N M).bind (fun q2 =>
     (F_M_itemOf x1 q2.1 q2.2).bind (fun q3 =>
     F_M_items_c59_b41 N N x1 x3 (0 : Int32) q3.1 q3.2)))
     else
     ((F_M_usual x1 x5 M).bind (fun q4 =>
     mj_ck (x3 + x5) 4 (mj_lt (mj_u q4.2 59 (x3 + x5).toNatClampNeg q4.1) (fun M5 =>
     F_M_items_c59_b3 N n x1 x3 x4 (x5 + (1 : Int32)) M5))))
set_option maxRecDepth 20000 in
theorem T_M_items_c59_b3 {g : mj_G} (N : Nat) (e : Nat) (he : 3 ≤ e) : ∀ (n : Nat) (x1 : Int32) (x3 : Int32) (x4 : Int32) (x5 : Int32) (M : mj_M), mj_X g (mj_qV g) "WinterTellersModel" c_M_items 7 none e 3 [(0, .ref 48), (1, .int x1), (2, .ref 59), (3, .int x3), (4, .int x4), (5, .int x5)] [] M (F_M_items_c59_b3 N n x1 x3 x4 x5 M) := by
  intro n
  induction n with
  | zero => intro x1 x3 x4 x5 M; exact mj_none
  | succ n ih =>
    intro x1 x3 x4 x5 M
    rw [F_M_items_c59_b3]
    refine mj_iload (pc := 3) (i := 5) rfl dd_M_items_3 ?_
    refine mj_iload (pc := 5) (i := 4) rfl dd_M_items_5 ?_
    refine mj_icmp_ge (pc := 7) (tgt := 28) dd_M_items_7 rfl (fun h1 => ?_) (fun h1 => ?_)
    · refine mj_iconst (pc := 28) (v := (0 : Int32)) (by decide) dd_M_items_28 ?_
      refine mj_istore (pc := 29) (by decide) dd_M_items_29 ?_
      refine mj_L (L' := [(5, .int (0 : Int32)), (0, .ref 48), (1, .int x1), (2, .ref 59), (3, .int x3)]) [0, 1, 2, 3, 4] rfl ?_
      refine mj_iload_n (pc := 31) (i := 1) rfl dd_M_items_31 ?_
      refine mj_aload_n (pc := 32) (i := 0) rfl dd_M_items_32 ?_
      refine mj_callVI (pc := 33) (idx := 119) (b := 48) (As := []) (st := [.int x1]) sh_48 cl_12 ev_M_look ql_M_119 rfl (Nat.le_of_ble_eq_true rfl) (T_M_look (g := g) N e (by omega) M) dd_M_items_33 (fun q2 hq2 => ?_)
      refine mj_callSI (pc := 36) (idx := 213) (As := [.int x1, .int q2.1]) (st := []) es_M_itemOf ql_M_213 rfl (Nat.le_of_ble_eq_true rfl) (T_M_itemOf (g := g) e (by omega) x1 q2.1 q2.2) dd_M_items_36 (fun q3 hq3 => ?_)
      refine mj_istore (pc := 39) (by decide) dd_M_items_39 ?_
      refine mj_L (L' := [(6, .int q3.1), (5, .int (0 : Int32)), (0, .ref 48), (1, .int x1), (2, .ref 59), (3, .int x3)]) [0, 1, 2, 3, 4, 5] rfl ?_
      refine mj_L (L' := [(0, .ref 48), (1, .int x1), (2, .ref 59), (3, .int x3), (5, .int (0 : Int32)), (6, .int q3.1)]) [2, 3, 4, 5, 1, 0] rfl ?_
      exact T_M_items_c59_b41 (g := g) N e he N x1 x3 (0 : Int32) q3.1 q3.2
    · refine mj_aload_n (pc := 10) (i := 2) rfl dd_M_items_10 ?_
      refine mj_iload_n (pc := 11) (i := 3) rfl dd_M_items_11 ?_
      refine mj_iload (pc := 12) (i := 5) rfl dd_M_items_12 ?_
      refine mj_iadd (pc := 14) dd_M_items_14 ?_
      refine mj_iload_n (pc := 15) (i := 1) rfl dd_M_items_15 ?_
      refine mj_iload (pc := 16) (i := 5) rfl dd_M_items_16 ?_
      refine mj_callSI (pc := 18) (idx := 209) (As := [.int x1, .int x5]) (st := [.int (x3 + x5), .ref 59]) es_M_usual ql_M_209 rfl (Nat.le_of_ble_eq_true rfl) (T_M_usual (g := g) e (by omega) x1 x5 M) dd_M_items_18 (fun q4 hq4 => ?_)
      refine mj_iast (pc := 21) sh_59 dd_M_items_21 (fun M5 _ => ?_)
      refine mj_iinc (pc := 22) (i := 5) (z := (1 : Int32)) rfl (by decide) (by decide) dd_M_items_22 ?_
      refine mj_L (L' := [(5, .int (x5 + (1 : Int32))), (0, .ref 48), (1, .int x1), (2, .ref 59), (3, .int x3), (4, .int x4)]) [0, 1, 2, 3, 4, 5] rfl ?_
      refine mj_goto (pc := 25) (tgt := 3) dd_M_items_25 rfl ?_
      refine mj_L (L' := [(0, .ref 48), (1, .int x1), (2, .ref 59), (3, .int x3), (4, .int x4), (5, .int (x5 + (1 : Int32)))]) [1, 2, 3, 4, 5, 0] rfl ?_
      exact ih x1 x3 x4 (x5 + (1 : Int32)) M5
def F_M_items_c59 (N : Nat) (x1 : Int32) (x3 : Int32) (x4 : Int32) (M : mj_M) : Option (mj_M) :=
    F_M_items_c59_b3 N N x1 x3 x4 (0 : Int32) M
set_option maxRecDepth 20000 in
theorem T_M_items_c59 {g : mj_G} (N : Nat) : ∀ d, 4 ≤ d → ∀ (x1 : Int32) (x3 : Int32) (x4 : Int32) (M : mj_M), mj_Mt g (mj_qV g) d y_M_items c_M_items 7 none [.ref 48, .int x1, .ref 59, .int x3, .int x4] M (F_M_items_c59 N x1 x3 x4 M) := by
  intro d hd x1 x3 x4 M
  obtain ⟨e, rfl⟩ : ∃ e, d = e + 1 := ⟨d - 1, by omega⟩
  have he : 3 ≤ e := by omega
  refine mj_met (by decide +kernel) (Nat.le_of_ble_eq_true rfl) ?_
  unfold F_M_items_c59
  refine mj_L (L' := [(0, .ref 48), (1, .int x1), (2, .ref 59), (3, .int x3), (4, .int x4)]) [0, 1, 2, 3, 4] rfl ?_
  refine mj_iconst (pc := 0) (v := (0 : Int32)) (by decide) dd_M_items_0 ?_
  refine mj_istore (pc := 1) (by decide) dd_M_items_1 ?_
  refine mj_L (L' := [(5, .int (0 : Int32)), (0, .ref 48), (1, .int x1), (2, .ref 59), (3, .int x3), (4, .int x4)]) [0, 1, 2, 3, 4, 5] rfl ?_
  refine mj_L (L' := [(0, .ref 48), (1, .int x1), (2, .ref 59), (3, .int x3), (4, .int x4), (5, .int (0 : Int32))]) [1, 2, 3, 4, 5, 0] rfl ?_
  exact T_M_items_c59_b3 (g := g) N e he N x1 x3 x4 (0 : Int32) M
def F_M_items_c60_b106 (N : Nat) (k41 : Int32 → Int32 → Int32 → Int32 → mj_M → Option (mj_M)) (x1 : Int32) (x3 : Int32) (x5 : Int32) (x6 : Int32) (s1 : Int32) (s3 : Int32) (M : mj_M) : Option (mj_M) :=
    (F_M_highest x1 x6 M).bind (fun q14 =>
     (F_M_number N s3 q14.1 q14.2).bind (fun q15 =>
     mj_ck s1 18 (mj_lt (mj_u q15.2 60 s1.toNatClampNeg q15.1) (fun M16 =>
     if (M16 48 4) = (-1 : Int32) then
     ((F_M_look N M16).bind (fun q18 =>
     (F_M_itemOf x1 q18.1 q18.2).bind (fun q19 =>
     k41 x1 x3 x5 q19.1 q19.2)))
     else
     (k41 x1 x3 x5 (-1 : Int32) M16)))))
set_option maxRecDepth 20000 in
theorem T_M_items_c60_b106 {g : mj_G} (N : Nat) (e : Nat) (he : 3 ≤ e) (k41 : Int32 → Int32 → Int32 → Int32 → mj_M → Option (mj_M)) (hk41 : ∀ (x1 : Int32) (x3 : Int32) (x5 : Int32) (x6 : Int32) (M : mj_M), mj_X g (mj_qV g) "WinterTellersModel" c_M_items 7 none e 41 [(0, .ref 48), (1, .int x1), (2, .ref 60), (3, .int x3), (5, .int x5), (6, .int x6)] [] M (k41 x1 x3 x5 x6 M)) (x1 : Int32) (x3 : Int32) (x5 : Int32) (x6 : Int32) (s1 : Int32) (s3 : Int32) (M : mj_M) : mj_X g (mj_qV g) "WinterTellersModel" c_M_items 7 none e 106 [(0, .ref 48), (1, .int x1), (2, .ref 60), (3, .int x3), (5, .int x5), (6, .int x6)] [.int s3, .ref 48, .int s1, .ref 60] M (F_M_items_c60_b106 N k41 x1 x3 x5 x6 s1 s3 M) := by
  unfold F_M_items_c60_b106
  refine mj_iload_n (pc := 106) (i := 1) rfl dd_M_items_106 ?_
  refine mj_iload (pc := 107) (i := 6) rfl dd_M_items_107 ?_
  refine mj_callSI (pc := 109) (idx := 220) (As := [.int x1, .int x6]) (st := [.int s3, .ref 48, .int s1, .ref 60]) es_M_highest ql_M_220 rfl (Nat.le_of_ble_eq_true rfl) (T_M_highest (g := g) e (by omega) x1 x6 M) dd_M_items_109 (fun q14 hq14 => ?_)
  refine mj_callVI (pc := 112) (idx := 223) (b := 48) (As := [.int s3, .int q14.1]) (st := [.int s1, .ref 60]) sh_48 cl_12 ev_M_number ql_M_223 rfl (Nat.le_of_ble_eq_true rfl) (T_M_number (g := g) N e (by omega) s3 q14.1 q14.2) dd_M_items_112 (fun q15 hq15 => ?_)
  refine mj_iast (pc := 115) sh_60 dd_M_items_115 (fun M16 _ => ?_)
  refine mj_aload_n (pc := 116) (i := 0) rfl dd_M_items_116 ?_
  refine mj_getI (pc := 117) (b := 48) (k := 4) qf_M_107 sh_48 cl_12 rfl (by decide) rfl dd_M_items_117 ?_
  refine mj_iconst (pc := 120) (v := (-1 : Int32)) (by decide) dd_M_items_120 ?_
  refine mj_icmp_ne (pc := 121) (tgt := 135) dd_M_items_121 rfl (fun h17 => ?_) (fun h17 => ?_)
  · refine mj_iload_n (pc := 124) (i := 1) rfl dd_M_items_124 ?_
    refine mj_aload_n (pc := 125) (i := 0) rfl dd_M_items_125 ?_
    refine mj_callVI (pc := 126) (idx := 119) (b := 48) (As := []) (st := [.int x1]) sh_48 cl_12 ev_M_look ql_M_119 rfl (Nat.le_of_ble_eq_true rfl) (T_M_look (g := g) N e (by omega) M16) dd_M_items_126 (fun q18 hq18 => ?_)
    refine mj_callSI (pc := 129) (idx := 213) (As := [.int x1, .int q18.1]) (st := []) es_M_itemOf ql_M_213 rfl (Nat.le_of_ble_eq_true rfl) (T_M_itemOf (g := g) e (by omega) x1 q18.1 q18.2) dd_M_items_129 (fun q19 hq19 => ?_)
    refine mj_goto (pc := 132) (tgt := 136) dd_M_items_132 rfl ?_
    refine mj_istore (pc := 136) (by decide) dd_M_items_136 ?_
    refine mj_L (L' := [(6, .int q19.1), (0, .ref 48), (1, .int x1), (2, .ref 60), (3, .int x3), (5, .int x5)]) [0, 1, 2, 3, 4, 5] rfl ?_
    refine mj_goto (pc := 138) (tgt := 41) dd_M_items_138 rfl ?_
    refine mj_L (L' := [(0, .ref 48), (1, .int x1), (2, .ref 60), (3, .int x3), (5, .int x5), (6, .int q19.1)]) [1, 2, 3, 4, 5, 0] rfl ?_
    exact hk41 x1 x3 x5 q19.1 q19.2
  · refine mj_iconst (pc := 135) (v := (-1 : Int32)) (by decide) dd_M_items_135 ?_
    refine mj_istore (pc := 136) (by decide) dd_M_items_136 ?_
    refine mj_L (L' := [(6, .int (-1 : Int32)), (0, .ref 48), (1, .int x1), (2, .ref 60), (3, .int x3), (5, .int x5)]) [0, 1, 2, 3, 4, 5] rfl ?_
    refine mj_goto (pc := 138) (tgt := 41) dd_M_items_138 rfl ?_
    refine mj_L (L' := [(0, .ref 48), (1, .int x1), (2, .ref 60), (3, .int x3), (5, .int x5), (6, .int (-1 : Int32))]) [1, 2, 3, 4, 5, 0] rfl ?_
    exact hk41 x1 x3 x5 (-1 : Int32) M16
def F_M_items_c60_b105 (N : Nat) (k41 : Int32 → Int32 → Int32 → Int32 → mj_M → Option (mj_M)) (x1 : Int32) (x3 : Int32) (x5 : Int32) (x6 : Int32) (s1 : Int32) (M : mj_M) : Option (mj_M) :=
    F_M_items_c60_b106 N k41 x1 x3 x5 x6 s1 (0 : Int32) M
set_option maxRecDepth 20000 in
theorem T_M_items_c60_b105 {g : mj_G} (N : Nat) (e : Nat) (he : 3 ≤ e) (k41 : Int32 → Int32 → Int32 → Int32 → mj_M → Option (mj_M)) (hk41 : ∀ (x1 : Int32) (x3 : Int32) (x5 : Int32) (x6 : Int32) (M : mj_M), mj_X g (mj_qV g) "WinterTellersModel" c_M_items 7 none e 41 [(0, .ref 48), (1, .int x1), (2, .ref 60), (3, .int x3), (5, .int x5), (6, .int x6)] [] M (k41 x1 x3 x5 x6 M)) (x1 : Int32) (x3 : Int32) (x5 : Int32) (x6 : Int32) (s1 : Int32) (M : mj_M) : mj_X g (mj_qV g) "WinterTellersModel" c_M_items 7 none e 105 [(0, .ref 48), (1, .int x1), (2, .ref 60), (3, .int x3), (5, .int x5), (6, .int x6)] [.ref 48, .int s1, .ref 60] M (F_M_items_c60_b105 N k41 x1 x3 x5 x6 s1 M) := by
  unfold F_M_items_c60_b105
  refine mj_iconst (pc := 105) (v := (0 : Int32)) (by decide) dd_M_items_105 ?_
  refine mj_L (L' := [(0, .ref 48), (1, .int x1), (2, .ref 60), (3, .int x3), (5, .int x5), (6, .int x6)]) [0, 1, 2, 3, 4, 5] rfl ?_
  exact T_M_items_c60_b106 (g := g) N e he k41 hk41 x1 x3 x5 x6 s1 (0 : Int32) M
def F_M_items_c60_b41 (N : Nat) : Nat → Int32 → Int32 → Int32 → Int32 → mj_M → Option (mj_M)
  | 0, _, _, _, _, _ => none
  | n + 1, x1, x3, x5, x6, M =>
    if (M 48 4) = (-1 : Int32) then
     (if x6 = (-1 : Int32) then
     (some M)
     else
     ((F_M_has x5 x6 M).bind (fun q8 =>
     if q8.1 = (0) then
     (mj_lt (x5 ||| ((1 : Int32) <<< (x6 &&& 31))) (fun v10 =>
     mj_lt (mj_u q8.2 48 3 ((q8.2 48 3) + (1 : Int32))) (fun M11 =>
     if x1 = (116 : Int32) then
     (if x6 = (0) then
     (F_M_items_c60_b106 N (F_M_items_c60_b41 N n) x1 x3 v10 x6 (x3 + x6) (1 : Int32) M11)
     else
     (F_M_items_c60_b105 N (F_M_items_c60_b41 N n) x1 x3 v10 x6 (x3 + x6) M11))
     else
     (F_M_items_c60_b105 N (F_M_items_c60_b41 N n) x1 x3 v10 x6 (x3 + x6) M11))))
     else
     (some q8.2))))
     else
     (some M)
set_option maxRecDepth 20000 in
theorem T_M_items_c60_b41 {g : mj_G} (N : Nat) (e : Nat) (he : 3 ≤ e) : ∀ (n : Nat) (x1 : Int32) (x3 : Int32) (x5 : Int32) (x6 : Int32) (M : mj_M), mj_X g (mj_qV g) "WinterTellersModel" c_M_items 7 none e 41 [(0, .ref 48), (1, .int x1), (2, .ref 60), (3, .int x3), (5, .int x5), (6, .int x6)] [] M (F_M_items_c60_b41 N n x1 x3 x5 x6 M) := by
  intro n
  induction n with
  | zero => intro x1 x3 x5 x6 M; exact mj_none
  | succ n ih =>
    intro x1 x3 x5 x6 M
    rw [F_M_items_c60_b41]
    refine mj_aload_n (pc := 41) (i := 0) rfl dd_M_items_41 ?_
    refine mj_getI (pc := 42) (b := 48) (k := 4) qf_M_107 sh_48 cl_12 rfl (by decide) rfl dd_M_items_42 ?_
    refine mj_iconst (pc := 45) (v := (-1 : Int32)) (by decide) dd_M_items_45 ?_
    refine mj_icmp_ne (pc := 46) (tgt := 141) dd_M_items_46 rfl (fun h6 => ?_) (fun h6 => ?_)
    · refine mj_iload (pc := 49) (i := 6) rfl dd_M_items_49 ?_
      refine mj_iconst (pc := 51) (v := (-1 : Int32)) (by decide) dd_M_items_51 ?_
      refine mj_icmp_eq (pc := 52) (tgt := 141) dd_M_items_52 rfl (fun h7 => ?_) (fun h7 => ?_)
      · exact mj_vret dd_M_items_141 rfl rfl
      · refine mj_iload (pc := 55) (i := 5) rfl dd_M_items_55 ?_
        refine mj_iload (pc := 57) (i := 6) rfl dd_M_items_57 ?_
        refine mj_callSI (pc := 59) (idx := 216) (As := [.int x5, .int x6]) (st := []) es_M_has ql_M_216 rfl (Nat.le_of_ble_eq_true rfl) (T_M_has (g := g) e (by omega) x5 x6 M) dd_M_items_59 (fun q8 hq8 => ?_)
        refine mj_if_ne (pc := 62) (tgt := 141) dd_M_items_62 rfl (fun h9 => ?_) (fun h9 => ?_)
        · refine mj_iload (pc := 65) (i := 5) rfl dd_M_items_65 ?_
          refine mj_iconst (pc := 67) (v := (1 : Int32)) (by decide) dd_M_items_67 ?_
          refine mj_iload (pc := 68) (i := 6) rfl dd_M_items_68 ?_
          refine mj_ishl (pc := 70) dd_M_items_70 ?_
          refine mj_ior (pc := 71) dd_M_items_71 ?_
          refine mj_istoreL (pc := 72) (by decide) dd_M_items_72 (fun v10 _ => ?_)
          refine mj_L (L' := [(5, .int v10), (0, .ref 48), (1, .int x1), (2, .ref 60), (3, .int x3), (6, .int x6)]) [0, 1, 2, 3, 4, 5] rfl ?_
          refine mj_aload_n (pc := 74) (i := 0) rfl dd_M_items_74 ?_
          refine mj_dup (pc := 75) rfl dd_M_items_75 ?_
          refine mj_getI (pc := 76) (b := 48) (k := 3) qf_M_100 sh_48 cl_12 rfl (by decide) rfl dd_M_items_76 ?_
          refine mj_iconst (pc := 79) (v := (1 : Int32)) (by decide) dd_M_items_79 ?_
          refine mj_iadd (pc := 80) dd_M_items_80 ?_
          refine mj_putI (pc := 81) (b := 48) (k := 3) qf_M_100 sh_48 cl_12 rfl (by decide) (by decide) rfl rfl rfl dd_M_items_81 (fun M11 _ => ?_)
          refine mj_aload_n (pc := 84) (i := 2) rfl dd_M_items_84 ?_
          refine mj_iload_n (pc := 85) (i := 3) rfl dd_M_items_85 ?_
          refine mj_iload (pc := 86) (i := 6) rfl dd_M_items_86 ?_
          refine mj_iadd (pc := 88) dd_M_items_88 ?_
          refine mj_aload_n (pc := 89) (i := 0) rfl dd_M_items_89 ?_
          refine mj_iload_n (pc := 90) (i := 1) rfl dd_M_items_90 ?_
          refine mj_bipush (pc := 91) (v := (116 : Int32)) (by decide) dd_M_items_91 ?_
          refine mj_icmp_ne (pc := 93) (tgt := 105) dd_M_items_93 rfl (fun h12 => ?_) (fun h12 => ?_)
          · refine mj_iload (pc := 96) (i := 6) rfl dd_M_items_96 ?_
            refine mj_if_ne (pc := 98) (tgt := 105) dd_M_items_98 rfl (fun h13 => ?_) (fun h13 => ?_)
            · refine mj_iconst (pc := 101) (v := (1 : Int32)) (by decide) dd_M_items_101 ?_
              refine mj_goto (pc := 102) (tgt := 106) dd_M_items_102 rfl ?_
              refine mj_L (L' := [(0, .ref 48), (1, .int x1), (2, .ref 60), (3, .int x3), (5, .int v10), (6, .int x6)]) [1, 2, 3, 4, 0, 5] rfl ?_
              exact T_M_items_c60_b106 (g := g) N e he (F_M_items_c60_b41 N n) ih x1 x3 v10 x6 (x3 + x6) (1 : Int32) M11
            · refine mj_L (L' := [(0, .ref 48), (1, .int x1), (2, .ref 60), (3, .int x3), (5, .int v10), (6, .int x6)]) [1, 2, 3, 4, 0, 5] rfl ?_
              exact T_M_items_c60_b105 (g := g) N e he (F_M_items_c60_b41 N n) ih x1 x3 v10 x6 (x3 + x6) M11
          · refine mj_L (L' := [(0, .ref 48), (1, .int x1), (2, .ref 60), (3, .int x3), (5, .int v10), (6, .int x6)]) [1, 2, 3, 4, 0, 5] rfl ?_
            exact T_M_items_c60_b105 (g := g) N e he (F_M_items_c60_b41 N n) ih x1 x3 v10 x6 (x3 + x6) M11
        · exact mj_vret dd_M_items_141 rfl rfl
    · exact mj_vret dd_M_items_141 rfl rfl
def F_M_items_c60_b3 (N : Nat) : Nat → Int32 → Int32 → Int32 → Int32 → mj_M → Option (mj_M)
  | 0, _, _, _, _, _ => none
  | n + 1, x1, x3, x4, x5, M =>
    if x4 ≤ x5 then
     ((F_M_look N M).bind (fun q2 =>
     (F_M_itemOf x1 q2.1 q2.2).bind (fun q3 =>
     F_M_items_c60_b41 N N x1 x3 (0 : Int32) q3.1 q3.2)))
     else
     ((F_M_usual x1 x5 M).bind (fun q4 =>
     mj_ck (x3 + x5) 18 (mj_lt (mj_u q4.2 60 (x3 + x5).toNatClampNeg q4.1) (fun M5 =>
     F_M_items_c60_b3 N n x1 x3 x4 (x5 + (1 : Int32)) M5))))
set_option maxRecDepth 20000 in
theorem T_M_items_c60_b3 {g : mj_G} (N : Nat) (e : Nat) (he : 3 ≤ e) : ∀ (n : Nat) (x1 : Int32) (x3 : Int32) (x4 : Int32) (x5 : Int32) (M : mj_M), mj_X g (mj_qV g) "WinterTellersModel" c_M_items 7 none e 3 [(0, .ref 48), (1, .int x1), (2, .ref 60), (3, .int x3), (4, .int x4), (5, .int x5)] [] M (F_M_items_c60_b3 N n x1 x3 x4 x5 M) := by
  intro n
  induction n with
  | zero => intro x1 x3 x4 x5 M; exact mj_none
  | succ n ih =>
    intro x1 x3 x4 x5 M
    rw [F_M_items_c60_b3]
    refine mj_iload (pc := 3) (i := 5) rfl dd_M_items_3 ?_
    refine mj_iload (pc := 5) (i := 4) rfl dd_M_items_5 ?_
    refine mj_icmp_ge (pc := 7) (tgt := 28) dd_M_items_7 rfl (fun h1 => ?_) (fun h1 => ?_)
    · refine mj_iconst (pc := 28) (v := (0 : Int32)) (by decide) dd_M_items_28 ?_
      refine mj_istore (pc := 29) (by decide) dd_M_items_29 ?_
      refine mj_L (L' := [(5, .int (0 : Int32)), (0, .ref 48), (1, .int x1), (2, .ref 60), (3, .int x3)]) [0, 1, 2, 3, 4] rfl ?_
      refine mj_iload_n (pc := 31) (i := 1) rfl dd_M_items_31 ?_
      refine mj_aload_n (pc := 32) (i := 0) rfl dd_M_items_32 ?_
      refine mj_callVI (pc := 33) (idx := 119) (b := 48) (As := []) (st := [.int x1]) sh_48 cl_12 ev_M_look ql_M_119 rfl (Nat.le_of_ble_eq_true rfl) (T_M_look (g := g) N e (by omega) M) dd_M_items_33 (fun q2 hq2 => ?_)
      refine mj_callSI (pc := 36) (idx := 213) (As := [.int x1, .int q2.1]) (st := []) es_M_itemOf ql_M_213 rfl (Nat.le_of_ble_eq_true rfl) (T_M_itemOf (g := g) e (by omega) x1 q2.1 q2.2) dd_M_items_36 (fun q3 hq3 => ?_)
      refine mj_istore (pc := 39) (by decide) dd_M_items_39 ?_
      refine mj_L (L' := [(6, .int q3.1), (5, .int (0 : Int32)), (0, .ref 48), (1, .int x1), (2, .ref 60), (3, .int x3)]) [0, 1, 2, 3, 4, 5] rfl ?_
      refine mj_L (L' := [(0, .ref 48), (1, .int x1), (2, .ref 60), (3, .int x3), (5, .int (0 : Int32)), (6, .int q3.1)]) [2, 3, 4, 5, 1, 0] rfl ?_
      exact T_M_items_c60_b41 (g := g) N e he N x1 x3 (0 : Int32) q3.1 q3.2
    · refine mj_aload_n (pc := 10) (i := 2) rfl dd_M_items_10 ?_
      refine mj_iload_n (pc := 11) (i := 3) rfl dd_M_items_11 ?_
      refine mj_iload (pc := 12) (i := 5) rfl dd_M_items_12 ?_
      refine mj_iadd (pc := 14) dd_M_items_14 ?_
      refine mj_iload_n (pc := 15) (i := 1) rfl dd_M_items_15 ?_
      refine mj_iload (pc := 16) (i := 5) rfl dd_M_items_16 ?_
      refine mj_callSI (pc := 18) (idx := 209) (As := [.int x1, .int x5]) (st := [.int (x3 + x5), .ref 60]) es_M_usual ql_M_209 rfl (Nat.le_of_ble_eq_true rfl) (T_M_usual (g := g) e (by omega) x1 x5 M) dd_M_items_18 (fun q4 hq4 => ?_)
      refine mj_iast (pc := 21) sh_60 dd_M_items_21 (fun M5 _ => ?_)
      refine mj_iinc (pc := 22) (i := 5) (z := (1 : Int32)) rfl (by decide) (by decide) dd_M_items_22 ?_
      refine mj_L (L' := [(5, .int (x5 + (1 : Int32))), (0, .ref 48), (1, .int x1), (2, .ref 60), (3, .int x3), (4, .int x4)]) [0, 1, 2, 3, 4, 5] rfl ?_
      refine mj_goto (pc := 25) (tgt := 3) dd_M_items_25 rfl ?_
      refine mj_L (L' := [(0, .ref 48), (1, .int x1), (2, .ref 60), (3, .int x3), (4, .int x4), (5, .int (x5 + (1 : Int32)))]) [1, 2, 3, 4, 5, 0] rfl ?_
      exact ih x1 x3 x4 (x5 + (1 : Int32)) M5
def F_M_items_c60 (N : Nat) (x1 : Int32) (x3 : Int32) (x4 : Int32) (M : mj_M) : Option (mj_M) :=
    F_M_items_c60_b3 N N x1 x3 x4 (0 : Int32) M
set_option maxRecDepth 20000 in
theorem T_M_items_c60 {g : mj_G} (N : Nat) : ∀ d, 4 ≤ d → ∀ (x1 : Int32) (x3 : Int32) (x4 : Int32) (M : mj_M), mj_Mt g (mj_qV g) d y_M_items c_M_items 7 none [.ref 48, .int x1, .ref 60, .int x3, .int x4] M (F_M_items_c60 N x1 x3 x4 M) := by
  intro d hd x1 x3 x4 M
  obtain ⟨e, rfl⟩ : ∃ e, d = e + 1 := ⟨d - 1, by omega⟩
  have he : 3 ≤ e := by omega
  refine mj_met (by decide +kernel) (Nat.le_of_ble_eq_true rfl) ?_
  unfold F_M_items_c60
  refine mj_L (L' := [(0, .ref 48), (1, .int x1), (2, .ref 60), (3, .int x3), (4, .int x4)]) [0, 1, 2, 3, 4] rfl ?_
  refine mj_iconst (pc := 0) (v := (0 : Int32)) (by decide) dd_M_items_0 ?_
  refine mj_istore (pc := 1) (by decide) dd_M_items_1 ?_
  refine mj_L (L' := [(5, .int (0 : Int32)), (0, .ref 48), (1, .int x1), (2, .ref 60), (3, .int x3), (4, .int x4)]) [0, 1, 2, 3, 4, 5] rfl ?_
  refine mj_L (L' := [(0, .ref 48), (1, .int x1), (2, .ref 60), (3, .int x3), (4, .int x4), (5, .int (0 : Int32))]) [1, 2, 3, 4, 5, 0] rfl ?_
  exact T_M_items_c60_b3 (g := g) N e he N x1 x3 x4 (0 : Int32) M
