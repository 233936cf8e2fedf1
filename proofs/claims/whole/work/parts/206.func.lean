/-! ===== functions and their proofs ===== -/
def F_M_items_c61_b106 (N : Nat) (k41 : Int32 → Int32 → Int32 → Int32 → mj_M → Option (mj_M)) (x1 : Int32) (x3 : Int32) (x5 : Int32) (x6 : Int32) (s1 : Int32) (s3 : Int32) (M : mj_M) : Option (mj_M) :=
    (F_M_highest x1 x6 M).bind (fun q14 =>
     (F_M_number N s3 q14.1 q14.2).bind (fun q15 =>
     mj_ck s1 18 (mj_lt (mj_u q15.2 61 s1.toNatClampNeg q15.1) (fun M16 =>
     if (M16 48 4) = (-1 : Int32) then
     ((F_M_look N M16).bind (fun q18 =>
     (F_M_itemOf x1 q18.1 q18.2).bind (fun q19 =>
     k41 x1 x3 x5 q19.1 q19.2)))
     else
     (k41 x1 x3 x5 (-1 : Int32) M16)))))
set_option maxRecDepth 20000 in
theorem T_M_items_c61_b106 {g : mj_G} (N : Nat) (e : Nat) (he : 3 ≤ e) (k41 : Int32 → Int32 → Int32 → Int32 → mj_M → Option (mj_M)) (hk41 : ∀ (x1 : Int32) (x3 : Int32) (x5 : Int32) (x6 : Int32) (M : mj_M), mj_X g (mj_qV g) "WinterTellersModel" c_M_items 7 none e 41 [(0, .ref 48), (1, .int x1), (2, .ref 61), (3, .int x3), (5, .int x5), (6, .int x6)] [] M (k41 x1 x3 x5 x6 M)) (x1 : Int32) (x3 : Int32) (x5 : Int32) (x6 : Int32) (s1 : Int32) (s3 : Int32) (M : mj_M) : mj_X g (mj_qV g) "WinterTellersModel" c_M_items 7 none e 106 [(0, .ref 48), (1, .int x1), (2, .ref 61), (3, .int x3), (5, .int x5), (6, .int x6)] [.int s3, .ref 48, .int s1, .ref 61] M (F_M_items_c61_b106 N k41 x1 x3 x5 x6 s1 s3 M) := by
  unfold F_M_items_c61_b106
  refine mj_iload_n (pc := 106) (i := 1) rfl dd_M_items_106 ?_
  refine mj_iload (pc := 107) (i := 6) rfl dd_M_items_107 ?_
  refine mj_callSI (pc := 109) (idx := 220) (As := [.int x1, .int x6]) (st := [.int s3, .ref 48, .int s1, .ref 61]) es_M_highest ql_M_220 rfl (Nat.le_of_ble_eq_true rfl) (T_M_highest (g := g) e (by omega) x1 x6 M) dd_M_items_109 (fun q14 hq14 => ?_)
  refine mj_callVI (pc := 112) (idx := 223) (b := 48) (As := [.int s3, .int q14.1]) (st := [.int s1, .ref 61]) sh_48 cl_12 ev_M_number ql_M_223 rfl (Nat.le_of_ble_eq_true rfl) (T_M_number (g := g) N e (by omega) s3 q14.1 q14.2) dd_M_items_112 (fun q15 hq15 => ?_)
  refine mj_iast (pc := 115) sh_61 dd_M_items_115 (fun M16 _ => ?_)
  refine mj_aload_n (pc := 116) (i := 0) rfl dd_M_items_116 ?_
  refine mj_getI (pc := 117) (b := 48) (k := 4) qf_M_107 sh_48 cl_12 rfl (by decide) rfl dd_M_items_117 ?_
  refine mj_iconst (pc := 120) (v := (-1 : Int32)) (by decide) dd_M_items_120 ?_
  refine mj_icmp_ne (pc := 121) (tgt := 135) dd_M_items_121 rfl (fun h17 => ?_) (fun h17 => ?_)
  · refine mj_iload_n (pc := 124) (i := 1) rfl dd_M_items_124 ?_
    refine mj_aload_n (pc := 125) (i := 0) rfl dd_M_items_125 ?_
    refine mj_callVI (pc := 126) (idx := 119) (b := 48) (As := []) (st := [.int x1]) sh_48 cl_12 ev_M_look ql_M_119 rfl (Nat.le_of_ble_eq_true rfl) (T_M_look (g := g) N e (by omega) M16) dd_M_items_126 (fun q18 hq18 => ?_)
    refine mj_callSI (pc := 129) (idx := 213) (As := [.int x1, .int q18.1]) (st := []) es_M_itemOf ql_M_213 rfl (Nat.le_of_ble_eq_true rfl) (T_M_itemOf (g := g) e (by omega) x1 q18.1 q18.2) dd_M_items_129 (fun q19 hq19 => ?_)
    refine mj_goto (pc := 132) (tgt := 136) dd_M_items_132 rfl ?_
    refine mj_istore (pc := 136) (by decide) dd_M_items_136 ?_
    refine mj_L (L' := [(6, .int q19.1), (0, .ref 48), (1, .int x1), (2, .ref 61), (3, .int x3), (5, .int x5)]) [0, 1, 2, 3, 4, 5] rfl ?_
    refine mj_goto (pc := 138) (tgt := 41) dd_M_items_138 rfl ?_
    refine mj_L (L' := [(0, .ref 48), (1, .int x1), (2, .ref 61), (3, .int x3), (5, .int x5), (6, .int q19.1)]) [1, 2, 3, 4, 5, 0] rfl ?_
    exact hk41 x1 x3 x5 q19.1 q19.2
  · refine mj_iconst (pc := 135) (v := (-1 : Int32)) (by decide) dd_M_items_135 ?_
    refine mj_istore (pc := 136) (by decide) dd_M_items_136 ?_
    refine mj_L (L' := [(6, .int (-1 : Int32)), (0, .ref 48), (1, .int x1), (2, .ref 61), (3, .int x3), (5, .int x5)]) [0, 1, 2, 3, 4, 5] rfl ?_
    refine mj_goto (pc := 138) (tgt := 41) dd_M_items_138 rfl ?_
    refine mj_L (L' := [(0, .ref 48), (1, .int x1), (2, .ref 61), (3, .int x3), (5, .int x5), (6, .int (-1 : Int32))]) [1, 2, 3, 4, 5, 0] rfl ?_
    exact hk41 x1 x3 x5 (-1 : Int32) M16
def F_M_items_c61_b105 (N : Nat) (k41 : Int32 → Int32 → Int32 → Int32 → mj_M → Option (mj_M)) (x1 : Int32) (x3 : Int32) (x5 : Int32) (x6 : Int32) (s1 : Int32) (M : mj_M) : Option (mj_M) :=
    F_M_items_c61_b106 N k41 x1 x3 x5 x6 s1 (0 : Int32) M
set_option maxRecDepth 20000 in
theorem T_M_items_c61_b105 {g : mj_G} (N : Nat) (e : Nat) (he : 3 ≤ e) (k41 : Int32 → Int32 → Int32 → Int32 → mj_M → Option (mj_M)) (hk41 : ∀ (x1 : Int32) (x3 : Int32) (x5 : Int32) (x6 : Int32) (M : mj_M), mj_X g (mj_qV g) "WinterTellersModel" c_M_items 7 none e 41 [(0, .ref 48), (1, .int x1), (2, .ref 61), (3, .int x3), (5, .int x5), (6, .int x6)] [] M (k41 x1 x3 x5 x6 M)) (x1 : Int32) (x3 : Int32) (x5 : Int32) (x6 : Int32) (s1 : Int32) (M : mj_M) : mj_X g (mj_qV g) "WinterTellersModel" c_M_items 7 none e 105 [(0, .ref 48), (1, .int x1), (2, .ref 61), (3, .int x3), (5, .int x5), (6, .int x6)] [.ref 48, .int s1, .ref 61] M (F_M_items_c61_b105 N k41 x1 x3 x5 x6 s1 M) := by
  unfold F_M_items_c61_b105
  refine mj_iconst (pc := 105) (v := (0 : Int32)) (by decide) dd_M_items_105 ?_
  refine mj_L (L' := [(0, .ref 48), (1, .int x1), (2, .ref 61), (3, .int x3), (5, .int x5), (6, .int x6)]) [0, 1, 2, 3, 4, 5] rfl ?_
  exact T_M_items_c61_b106 (g := g) N e he k41 hk41 x1 x3 x5 x6 s1 (0 : Int32) M
def F_M_items_c61_b41 (N : Nat) : Nat → Int32 → Int32 → Int32 → Int32 → mj_M → Option (mj_M)
  | 0, _, _, _, _, _ => none
  | n + 1, x1, x3, x5, x6, M =>
    if (M 48 4) = (-1 : Int32) then
     (if x6 = (-1 : Int32) then
     (some M)
     else
     ((F_M_has x5 x6 M).bind (fun q8 =>
     if q8.1 = (0) then
     (mj_lt (x5 ||| ((1 : Int32) <<< (x6 &&& 31))) (fun v10 =>
     mj_lt (mj_u q8.2 48 3 ((q8.2 48 3) + (1 : Int32))) (fun M11 =>
     if x1 = (116 : Int32) then
     (if x6 = (0) then
     (F_M_items_c61_b106 N (F_M_items_c61_b41 N n) x1 x3 v10 x6 (x3 + x6) (1 : Int32) M11)
     else
     (F_M_items_c61_b105 N (F_M_items_c61_b41 N n) x1 x3 v10 x6 (x3 + x6) M11))
     else
     (F_M_items_c61_b105 N (F_M_items_c61_b41 N n) x1 x3 v10 x6 (x3 + x6) M11))))
     else
     (some q8.2))))
     else
     (some M)
set_option maxRecDepth 20000 in
theorem T_M_items_c61_b41 {g : mj_G} (N : Nat) (e : Nat) (he : 3 ≤ e) : ∀ (n : Nat) (x1 : Int32) (x3 : Int32) (x5 : Int32) (x6 : Int32) (M : mj_M), mj_X g (mj_qV g) "WinterTellersModel" c_M_items 7 none e 41 [(0, .ref 48), (1, .int x1), (2, .ref 61), (3, .int x3), (5, .int x5), (6, .int x6)] [] M (F_M_items_c61_b41 N n x1 x3 x5 x6 M) := by
  intro n
  induction n with
  | zero => intro x1 x3 x5 x6 M; exact mj_none
  | succ n ih =>
    intro x1 x3 x5 x6 M
    rw [F_M_items_c61_b41]
    refine mj_aload_n (pc := 41) (i := 0) rfl dd_M_items_41 ?_
    refine mj_getI (pc := 42) (b := 48) (k := 4) qf_M_107 sh_48 cl_12 rfl (by decide) rfl dd_M_items_42 ?_
    refine mj_iconst (pc := 45) (v := (-1 : Int32)) (by decide) dd_M_items_45 ?_
    refine mj_icmp_ne (pc := 46) (tgt := 141) dd_M_items_46 rfl (fun h6 => ?_) (fun h6 => ?_)
    · refine mj_iload (pc := 49) (i := 6) rfl dd_M_items_49 ?_
      refine mj_iconst (pc := 51) (v := (-1 : Int32)) (by decide) dd_M_items_51 ?_
      refine mj_icmp_eq (pc := 52) (tgt := 141) dd_M_items_52 rfl (fun h7 => ?_) (fun h7 => ?_)
      · exact mj_vret dd_M_items_141 rfl rfl
      · refine mj_iload (pc := 55) (i := 5) rfl dd_M_items_55 ?_
        refine mj_iload (pc := 57) (i := 6) rfl dd_M_items_57 ?_
        refine mj_callSI (pc := 59) (idx := 216) (As := [.int x5, .int x6]) (st := []) es_M_has ql_M_216 rfl (Nat.le_of_ble_eq_true rfl) (T_M_has (g := g) e (by omega) x5 x6 M) dd_M_items_59 (fun q8 hq8 => ?_)
        refine mj_if_ne (pc := 62) (tgt := 141) dd_M_items_62 rfl (fun h9 => ?_) (fun h9 => ?_)
        · refine mj_iload (pc := 65) (i := 5) rfl dd_M_items_65 ?_
          refine mj_iconst (pc := 67) (v := (1 : Int32)) (by decide) dd_M_items_67 ?_
          refine mj_iload (pc := 68) (i := 6) rfl dd_M_items_68 ?_
          refine mj_ishl (pc := 70) dd_M_items_70 ?_
          refine mj_ior (pc := 71) dd_M_items_71 ?_
          refine mj_istoreL (pc := 72) (by decide) dd_M_items_72 (fun v10 _ => ?_)
          refine mj_L (L' := [(5, .int v10), (0, .ref 48), (1, .int x1), (2, .ref 61), (3, .int x3), (6, .int x6)]) [0, 1, 2, 3, 4, 5] rfl ?_
          refine mj_aload_n (pc := 74) (i := 0) rfl dd_M_items_74 ?_
          refine mj_dup (pc := 75) rfl dd_M_items_75 ?_
          refine mj_getI (pc := 76) (b := 48) (k := 3) qf_M_100 sh_48 cl_12 rfl (by decide) rfl dd_M_items_76 ?_
          refine mj_iconst (pc := 79) (v := (1 : Int32)) (by decide) dd_M_items_79 ?_
          refine mj_iadd (pc := 80) dd_M_items_80 ?_
          refine mj_putI (pc := 81) (b := 48) (k := 3) qf_M_100 sh_48 cl_12 rfl (by decide) (by decide) rfl rfl rfl dd_M_items_81 (fun M11 _ => ?_)
          refine mj_aload_n (pc := 84) (i := 2) rfl dd_M_items_84 ?_
          refine mj_iload_n (pc := 85) (i := 3) rfl dd_M_items_85 ?_
          refine mj_iload (pc := 86) (i := 6) rfl dd_M_items_86 ?_
          refine mj_iadd (pc := 88) dd_M_items_88 ?_
          refine mj_aload_n (pc := 89) (i := 0) rfl dd_M_items_89 ?_
          refine mj_iload_n (pc := 90) (i := 1) rfl dd_M_items_90 ?_
          refine mj_bipush (pc := 91) (v := (116 : Int32)) (by decide) dd_M_items_91 ?_
          refine mj_icmp_ne (pc := 93) (tgt := 105) dd_M_items_93 rfl (fun h12 => ?_) (fun h12 => ?_)
          · refine mj_iload (pc := 96) (i := 6) rfl dd_M_items_96 ?_
            refine mj_if_ne (pc := 98) (tgt := 105) dd_M_items_98 rfl (fun h13 => ?_) (fun h13 => ?_)
            · refine mj_iconst (pc := 101) (v := (1 : Int32)) (by decide) dd_M_items_101 ?_
              refine mj_goto (pc := 102) (tgt := 106) dd_M_items_102 rfl ?_
              refine mj_L (L' := [(0, .ref 48), (1, .int x1), (2, .ref 61), (3, .int x3), (5, .int v10), (6, .int x6)]) [1, 2, 3, 4, 0, 5] rfl ?_
              exact T_M_items_c61_b106 (g := g) N e he (F_M_items_c61_b41 N n) ih x1 x3 v10 x6 (x3 + x6) (1 : Int32) M11
            · refine mj_L (L' := [(0, .ref 48), (1, .int x1), (2, .ref 61), (3, .int x3), (5, .int v10), (6, .int x6)]) [1, 2, 3, 4, 0, 5] rfl ?_
              exact T_M_items_c61_b105 (g := g) N e he (F_M_items_c61_b41 N n) ih x1 x3 v10 x6 (x3 + x6) M11
          · refine mj_L (L' := [(0, .ref 48), (1, .int x1), (2, .ref 61), (3, .int x3), (5, .int v10), (6, .int x6)]) [1, 2, 3, 4, 0, 5] rfl ?_
            exact T_M_items_c61_b105 (g := g) N e he (F_M_items_c61_b41 N n) ih x1 x3 v10 x6 (x3 + x6) M11
        · exact mj_vret dd_M_items_141 rfl rfl
    · exact mj_vret dd_M_items_141 rfl rfl
def F_M_items_c61_b3 (N : Nat) : Nat → Int32 → Int32 → Int32 → Int32 → mj_M → Option (mj_M)
  | 0, _, _, _, _, _ => none
  | n + 1, x1, x3, x4, x5, M =>
    if x4 ≤ x5 then
     ((F_M_look N M).bind (fun q2 =>
     (F_M_itemOf x1 q2.1 q2.2).bind (fun q3 =>
     F_M_items_c61_b41 N N x1 x3 (0 : Int32) q3.1 q3.2)))
     else
     ((F_M_usual x1 x5 M).bind (fun q4 =>
     mj_ck (x3 + x5) 18 (mj_lt (mj_u q4.2 61 (x3 + x5).toNatClampNeg q4.1) (fun M5 =>
     F_M_items_c61_b3 N n x1 x3 x4 (x5 + (1 : Int32)) M5))))
set_option maxRecDepth 20000 in
theorem T_M_items_c61_b3 {g : mj_G} (N : Nat) (e : Nat) (he : 3 ≤ e) : ∀ (n : Nat) (x1 : Int32) (x3 : Int32) (x4 : Int32) (x5 : Int32) (M : mj_M), mj_X g (mj_qV g) "WinterTellersModel" c_M_items 7 none e 3 [(0, .ref 48), (1, .int x1), (2, .ref 61), (3, .int x3), (4, .int x4), (5, .int x5)] [] M (F_M_items_c61_b3 N n x1 x3 x4 x5 M) := by
  intro n
  induction n with
  | zero => intro x1 x3 x4 x5 M; exact mj_none
  | succ n ih =>
    intro x1 x3 x4 x5 M
    rw [F_M_items_c61_b3]
    refine mj_iload (pc := 3) (i := 5) rfl dd_M_items_3 ?_
    refine mj_iload (pc := 5) (i := 4) rfl dd_M_items_5 ?_
    refine mj_icmp_ge (pc := 7) (tgt := 28) dd_M_items_7 rfl (fun h1 => ?_) (fun h1 => ?_)
    · refine mj_iconst (pc := 28) (v := (0 : Int32)) (by decide) dd_M_items_28 ?_
      refine mj_istore (pc := 29) (by decide) dd_M_items_29 ?_
      refine mj_L (L' := [(5, .int (0 : Int32)), (0, .ref 48), (1, .int x1), (2, .ref 61), (3, .int x3)]) [0, 1, 2, 3, 4] rfl ?_
      refine mj_iload_n (pc := 31) (i := 1) rfl dd_M_items_31 ?_
      refine mj_aload_n (pc := 32) (i := 0) rfl dd_M_items_32 ?_
      refine mj_callVI (pc := 33) (idx := 119) (b := 48) (As := []) (st := [.int x1]) sh_48 cl_12 ev_M_look ql_M_119 rfl (Nat.le_of_ble_eq_true rfl) (T_M_look (g := g) N e (by omega) M) dd_M_items_33 (fun q2 hq2 => ?_)
      refine mj_callSI (pc := 36) (idx := 213) (As := [.int x1, .int q2.1]) (st := []) es_M_itemOf ql_M_213 rfl (Nat.le_of_ble_eq_true rfl) (T_M_itemOf (g := g) e (by omega) x1 q2.1 q2.2) dd_M_items_36 (fun q3 hq3 => ?_)
      refine mj_istore (pc := 39) (by decide) dd_M_items_39 ?_
      refine mj_L (L' := [(6, .int q3.1), (5, .int (0 : Int32)), (0, .ref 48), (1, .int x1), (2, .ref 61), (3, .int x3)]) [0, 1, 2, 3, 4, 5] rfl ?_
      refine mj_L (L' := [(0, .ref 48), (1, .int x1), (2, .ref 61), (3, .int x3), (5, .int (0 : Int32)), (6, .int q3.1)]) [2, 3, 4, 5, 1, 0] rfl ?_
      exact T_M_items_c61_b41 (g := g) N e he N x1 x3 (0 : Int32) q3.1 q3.2
    · refine mj_aload_n (pc := 10) (i := 2) rfl dd_M_items_10 ?_
      refine mj_iload_n (pc := 11) (i := 3) rfl dd_M_items_11 ?_
      refine mj_iload (pc := 12) (i := 5) rfl dd_M_items_12 ?_
      refine mj_iadd (pc := 14) dd_M_items_14 ?_
      refine mj_iload_n (pc := 15) (i := 1) rfl dd_M_items_15 ?_
      refine mj_iload (pc := 16) (i := 5) rfl dd_M_items_16 ?_
      refine mj_callSI (pc := 18) (idx := 209) (As := [.int x1, .int x5]) (st := [.int (x3 + x5), .ref 61]) es_M_usual ql_M_209 rfl (Nat.le_of_ble_eq_true rfl) (T_M_usual (g := g) e (by omega) x1 x5 M) dd_M_items_18 (fun q4 hq4 => ?_)
      refine mj_iast (pc := 21) sh_61 dd_M_items_21 (fun M5 _ => ?_)
      refine mj_iinc (pc := 22) (i := 5) (z := (1 : Int32)) rfl (by decide) (by decide) dd_M_items_22 ?_
      refine mj_L (L' := [(5, .int (x5 + (1 : Int32))), (0, .ref 48), (1, .int x1), (2, .ref 61), (3, .int x3), (4, .int x4)]) [0, 1, 2, 3, 4, 5] rfl ?_
      refine mj_goto (pc := 25) (tgt := 3) dd_M_items_25 rfl ?_
      refine mj_L (L' := [(0, .ref 48), (1, .int x1), (2, .ref 61), (3, .int x3), (4, .int x4), (5, .int (x5 + (1 : Int32)))]) [1, 2, 3, 4, 5, 0] rfl ?_
      exact ih x1 x3 x4 (x5 + (1 : Int32)) M5
def F_M_items_c61 (N : Nat) (x1 : Int32) (x3 : Int32) (x4 : Int32) (M : mj_M) : Option (mj_M) :=
    F_M_items_c61_b3 N N x1 x3 x4 (0 : Int32) M
set_option maxRecDepth 20000 in
theorem T_M_items_c61 {g : mj_G} (N : Nat) : ∀ d, 4 ≤ d → ∀ (x1 : Int32) (x3 : Int32) (x4 : Int32) (M : mj_M), mj_Mt g (mj_qV g) d y_M_items c_M_items 7 none [.ref 48, .int x1, .ref 61, .int x3, .int x4] M (F_M_items_c61 N x1 x3 x4 M) := by
  intro d hd x1 x3 x4 M
  obtain ⟨e, rfl⟩ : ∃ e, d = e + 1 := ⟨d - 1, by omega⟩
  have he : 3 ≤ e := by omega
  refine mj_met (by decide +kernel) (Nat.le_of_ble_eq_true rfl) ?_
  unfold F_M_items_c61
  refine mj_L (L' := [(0, .ref 48), (1, .int x1), (2, .ref 61), (3, .int x3), (4, .int x4)]) [0, 1, 2, 3, 4] rfl ?_
  refine mj_iconst (pc := 0) (v := (0 : Int32)) (by decide) dd_M_items_0 ?_
  refine mj_istore (pc := 1) (by decide) dd_M_items_1 ?_
  refine mj_L (L' := [(5, .int (0 : Int32)), (0, .ref 48), (1, .int x1), (2, .ref 61), (3, .int x3), (4, .int x4)]) [0, 1, 2, 3, 4, 5] rfl ?_
  refine mj_L (L' := [(0, .ref 48), (1, .int x1), (2, .ref 61), (3, .int x3), (4, .int x4), (5, .int (0 : Int32))]) [1, 2, 3, 4, 5, 0] rfl ?_
  exact T_M_items_c61_b3 (g := g) N e he N x1 x3 x4 (0 : Int32) M
def F_M_readCoast_b302 (N : Nat) (M : mj_M) : Option (Int32 × mj_M) :=
    (F_M_bad M).bind (fun q29 =>
     some (q29 48 4, q29))
set_option maxRecDepth 20000 in
theorem T_M_readCoast_b302 {g : mj_G} (N : Nat) (e : Nat) (he : 4 ≤ e) (M : mj_M) : mj_X g (mj_qI g) "WinterTellersModel" c_M_readCoast 4 (some .int) e 302 [(0, .ref 48)] [] M (F_M_readCoast_b302 N M) := by
  unfold F_M_readCoast_b302
  refine mj_aload_n (pc := 302) (i := 0) rfl dd_M_readCoast_302 ?_
  refine mj_callVV (pc := 303) (idx := 116) (b := 48) (As := []) (st := []) sh_48 cl_12 ev_M_bad ql_M_116 rfl (Nat.le_of_ble_eq_true rfl) (T_M_bad (g := g) e (by omega) M) dd_M_readCoast_303 (fun q29 hq29 => ?_)
  refine mj_aload_n (pc := 306) (i := 0) rfl dd_M_readCoast_306 ?_
  refine mj_getI (pc := 307) (b := 48) (k := 4) qf_M_107 sh_48 cl_12 rfl (by decide) rfl dd_M_readCoast_307 ?_
  exact mj_iret dd_M_readCoast_310 rfl rfl
def F_M_readCoast_b258 (N : Nat) (M : mj_M) : Option (Int32 × mj_M) :=
    if (M 48 4) = (-1 : Int32) then
     ((F_M_look N M).bind (fun q16 =>
     if q16.1 = (-1 : Int32) then
     (if (q16.2 48 20) < (2 : Int32) then
     (F_M_readCoast_b302 N q16.2)
     else
     (if (q16.2 48 21) = (0) then
     (F_M_readCoast_b302 N q16.2)
     else
     (if (q16.2 59 2) < (q16.2 48 20) then
     (some (q16.2 48 4, q16.2))
     else
     (F_M_readCoast_b302 N q16.2))))
     else
     (F_M_readCoast_b302 N q16.2)))
     else
     (some (M 48 4, M))
set_option maxRecDepth 20000 in
theorem T_M_readCoast_b258 {g : mj_G} (N : Nat) (e : Nat) (he : 4 ≤ e) (M : mj_M) : mj_X g (mj_qI g) "WinterTellersModel" c_M_readCoast 4 (some .int) e 258 [(0, .ref 48)] [] M (F_M_readCoast_b258 N M) := by
  unfold F_M_readCoast_b258
  refine mj_aload_n (pc := 258) (i := 0) rfl dd_M_readCoast_258 ?_
  refine mj_getI (pc := 259) (b := 48) (k := 4) qf_M_107 sh_48 cl_12 rfl (by decide) rfl dd_M_readCoast_259 ?_
  refine mj_iconst (pc := 262) (v := (-1 : Int32)) (by decide) dd_M_readCoast_262 ?_
  refine mj_icmp_ne (pc := 263) (tgt := 306) dd_M_readCoast_263 rfl (fun h15 => ?_) (fun h15 => ?_)
  · refine mj_aload_n (pc := 266) (i := 0) rfl dd_M_readCoast_266 ?_
    refine mj_callVI (pc := 267) (idx := 119) (b := 48) (As := []) (st := []) sh_48 cl_12 ev_M_look ql_M_119 rfl (Nat.le_of_ble_eq_true rfl) (T_M_look (g := g) N e (by omega) M) dd_M_readCoast_267 (fun q16 hq16 => ?_)
    refine mj_iconst (pc := 270) (v := (-1 : Int32)) (by decide) dd_M_readCoast_270 ?_
    refine mj_icmp_ne (pc := 271) (tgt := 302) dd_M_readCoast_271 rfl (fun h17 => ?_) (fun h17 => ?_)
    · refine mj_aload_n (pc := 274) (i := 0) rfl dd_M_readCoast_274 ?_
      refine mj_getI (pc := 275) (b := 48) (k := 20) qf_M_226 sh_48 cl_12 rfl (by decide) rfl dd_M_readCoast_275 ?_
      refine mj_iconst (pc := 278) (v := (2 : Int32)) (by decide) dd_M_readCoast_278 ?_
      refine mj_icmp_lt (pc := 279) (tgt := 302) dd_M_readCoast_279 rfl (fun h18 => ?_) (fun h18 => ?_)
      · refine mj_L (L' := [(0, .ref 48)]) [0] rfl ?_
        exact T_M_readCoast_b302 (g := g) N e he q16.2
      · refine mj_aload_n (pc := 282) (i := 0) rfl dd_M_readCoast_282 ?_
        refine mj_getI (pc := 283) (b := 48) (k := 21) qf_M_229 sh_48 cl_12 rfl (by decide) rfl dd_M_readCoast_283 ?_
        refine mj_if_eq (pc := 286) (tgt := 302) dd_M_readCoast_286 rfl (fun h19 => ?_) (fun h19 => ?_)
        · refine mj_L (L' := [(0, .ref 48)]) [0] rfl ?_
          exact T_M_readCoast_b302 (g := g) N e he q16.2
        · refine mj_aload_n (pc := 289) (i := 0) rfl dd_M_readCoast_289 ?_
          refine mj_getR (pc := 290) (b := 48) (k := 17) qf_M_40 sh_48 cl_12 rfl (by decide) (r := 59) rfl dd_M_readCoast_290 ?_
          refine mj_iconst (pc := 293) (v := (2 : Int32)) (by decide) dd_M_readCoast_293 ?_
          refine mj_ialdK (pc := 294) (j := 2) sh_59 (by decide) rfl dd_M_readCoast_294 ?_
          refine mj_aload_n (pc := 295) (i := 0) rfl dd_M_readCoast_295 ?_
          refine mj_getI (pc := 296) (b := 48) (k := 20) qf_M_226 sh_48 cl_12 rfl (by decide) rfl dd_M_readCoast_296 ?_
          refine mj_icmp_lt (pc := 299) (tgt := 306) dd_M_readCoast_299 rfl (fun h20 => ?_) (fun h20 => ?_)
          · refine mj_aload_n (pc := 306) (i := 0) rfl dd_M_readCoast_306 ?_
            refine mj_getI (pc := 307) (b := 48) (k := 4) qf_M_107 sh_48 cl_12 rfl (by decide) rfl dd_M_readCoast_307 ?_
            exact mj_iret dd_M_readCoast_310 rfl rfl
          · refine mj_L (L' := [(0, .ref 48)]) [0] rfl ?_
            exact T_M_readCoast_b302 (g := g) N e he q16.2
    · refine mj_L (L' := [(0, .ref 48)]) [0] rfl ?_
      exact T_M_readCoast_b302 (g := g) N e he q16.2
  · refine mj_aload_n (pc := 306) (i := 0) rfl dd_M_readCoast_306 ?_
    refine mj_getI (pc := 307) (b := 48) (k := 4) qf_M_107 sh_48 cl_12 rfl (by decide) rfl dd_M_readCoast_307 ?_
    exact mj_iret dd_M_readCoast_310 rfl rfl
def F_M_readCoast_b236 (N : Nat) (k49 : Int32 → Int32 → mj_M → Option (Int32 × mj_M)) (x1 : Int32) (s0 : Int32) (M : mj_M) : Option (Int32 × mj_M) :=
    if s0 = (0) then
     (mj_lt (mj_u M 48 3 ((M 48 3) + (0 : Int32))) (fun M36 =>
     k49 x1 s0 M36))
     else
     (mj_lt (mj_u M 48 3 ((M 48 3) + (1 : Int32))) (fun M37 =>
     k49 x1 s0 M37))
set_option maxRecDepth 20000 in
theorem T_M_readCoast_b236 {g : mj_G} (N : Nat) (e : Nat) (he : 4 ≤ e) (k49 : Int32 → Int32 → mj_M → Option (Int32 × mj_M)) (hk49 : ∀ (x1 : Int32) (x2 : Int32) (M : mj_M), mj_X g (mj_qI g) "WinterTellersModel" c_M_readCoast 4 (some .int) e 49 [(0, .ref 48), (1, .int x1), (2, .int x2)] [] M (k49 x1 x2 M)) (x1 : Int32) (s0 : Int32) (M : mj_M) : mj_X g (mj_qI g) "WinterTellersModel" c_M_readCoast 4 (some .int) e 236 [(0, .ref 48), (1, .int x1)] [.int s0] M (F_M_readCoast_b236 N k49 x1 s0 M) := by
  unfold F_M_readCoast_b236
  refine mj_istore_n (pc := 236) (by decide) dd_M_readCoast_236 ?_
  refine mj_L (L' := [(2, .int s0), (0, .ref 48), (1, .int x1)]) [0, 1, 2] rfl ?_
  refine mj_aload_n (pc := 237) (i := 0) rfl dd_M_readCoast_237 ?_
  refine mj_dup (pc := 238) rfl dd_M_readCoast_238 ?_
  refine mj_getI (pc := 239) (b := 48) (k := 3) qf_M_100 sh_48 cl_12 rfl (by decide) rfl dd_M_readCoast_239 ?_
  refine mj_iload_n (pc := 242) (i := 2) rfl dd_M_readCoast_242 ?_
  refine mj_if_eq (pc := 243) (tgt := 250) dd_M_readCoast_243 rfl (fun h35 => ?_) (fun h35 => ?_)
  · refine mj_iconst (pc := 250) (v := (0 : Int32)) (by decide) dd_M_readCoast_250 ?_
    refine mj_iadd (pc := 251) dd_M_readCoast_251 ?_
    refine mj_putI (pc := 252) (b := 48) (k := 3) qf_M_100 sh_48 cl_12 rfl (by decide) (by decide) rfl rfl rfl dd_M_readCoast_252 (fun M36 _ => ?_)
    refine mj_goto (pc := 255) (tgt := 49) dd_M_readCoast_255 rfl ?_
    refine mj_L (L' := [(0, .ref 48), (1, .int x1), (2, .int s0)]) [1, 2, 0] rfl ?_
    exact hk49 x1 s0 M36
  · refine mj_iconst (pc := 246) (v := (1 : Int32)) (by decide) dd_M_readCoast_246 ?_
    refine mj_goto (pc := 247) (tgt := 251) dd_M_readCoast_247 rfl ?_
    refine mj_iadd (pc := 251) dd_M_readCoast_251 ?_
    refine mj_putI (pc := 252) (b := 48) (k := 3) qf_M_100 sh_48 cl_12 rfl (by decide) (by decide) rfl rfl rfl dd_M_readCoast_252 (fun M37 _ => ?_)
    refine mj_goto (pc := 255) (tgt := 49) dd_M_readCoast_255 rfl ?_
    refine mj_L (L' := [(0, .ref 48), (1, .int x1), (2, .int s0)]) [1, 2, 0] rfl ?_
    exact hk49 x1 s0 M37
def F_M_readCoast_b235 (N : Nat) (k49 : Int32 → Int32 → mj_M → Option (Int32 × mj_M)) (x1 : Int32) (M : mj_M) : Option (Int32 × mj_M) :=
    F_M_readCoast_b236 N k49 x1 (0 : Int32) M
set_option maxRecDepth 20000 in
theorem T_M_readCoast_b235 {g : mj_G} (N : Nat) (e : Nat) (he : 4 ≤ e) (k49 : Int32 → Int32 → mj_M → Option (Int32 × mj_M)) (hk49 : ∀ (x1 : Int32) (x2 : Int32) (M : mj_M), mj_X g (mj_qI g) "WinterTellersModel" c_M_readCoast 4 (some .int) e 49 [(0, .ref 48), (1, .int x1), (2, .int x2)] [] M (k49 x1 x2 M)) (x1 : Int32) (M : mj_M) : mj_X g (mj_qI g) "WinterTellersModel" c_M_readCoast 4 (some .int) e 235 [(0, .ref 48), (1, .int x1)] [] M (F_M_readCoast_b235 N k49 x1 M) := by
  unfold F_M_readCoast_b235
  refine mj_iconst (pc := 235) (v := (0 : Int32)) (by decide) dd_M_readCoast_235 ?_
  refine mj_L (L' := [(0, .ref 48), (1, .int x1)]) [0, 1] rfl ?_
  exact T_M_readCoast_b236 (g := g) N e he k49 hk49 x1 (0 : Int32) M
def F_M_readCoast_b214 (N : Nat) (k49 : Int32 → Int32 → mj_M → Option (Int32 × mj_M)) (x1 : Int32) (M : mj_M) : Option (Int32 × mj_M) :=
    if (M 48 4) = (-1 : Int32) then
     ((F_M_look N M).bind (fun q27 =>
     if q27.1 = (59 : Int32) then
     (F_M_readCoast_b236 N k49 x1 (1 : Int32) q27.2)
     else
     (F_M_readCoast_b235 N k49 x1 q27.2)))
     else
     (F_M_readCoast_b235 N k49 x1 M)
set_option maxRecDepth 20000 in
theorem T_M_readCoast_b214 {g : mj_G} (N : Nat) (e : Nat) (he : 4 ≤ e) (k49 : Int32 → Int32 → mj_M → Option (Int32 × mj_M)) (hk49 : ∀ (x1 : Int32) (x2 : Int32) (M : mj_M), mj_X g (mj_qI g) "WinterTellersModel" c_M_readCoast 4 (some .int) e 49 [(0, .ref 48), (1, .int x1), (2, .int x2)] [] M (k49 x1 x2 M)) (x1 : Int32) (M : mj_M) : mj_X g (mj_qI g) "WinterTellersModel" c_M_readCoast 4 (some .int) e 214 [(0, .ref 48), (1, .int x1)] [] M (F_M_readCoast_b214 N k49 x1 M) := by
  unfold F_M_readCoast_b214
  refine mj_aload_n (pc := 214) (i := 0) rfl dd_M_readCoast_214 ?_
  refine mj_getI (pc := 215) (b := 48) (k := 4) qf_M_107 sh_48 cl_12 rfl (by decide) rfl dd_M_readCoast_215 ?_
  refine mj_iconst (pc := 218) (v := (-1 : Int32)) (by decide) dd_M_readCoast_218 ?_
  refine mj_icmp_ne (pc := 219) (tgt := 235) dd_M_readCoast_219 rfl (fun h26 => ?_) (fun h26 => ?_)
  · refine mj_aload_n (pc := 222) (i := 0) rfl dd_M_readCoast_222 ?_
    refine mj_callVI (pc := 223) (idx := 119) (b := 48) (As := []) (st := []) sh_48 cl_12 ev_M_look ql_M_119 rfl (Nat.le_of_ble_eq_true rfl) (T_M_look (g := g) N e (by omega) M) dd_M_readCoast_223 (fun q27 hq27 => ?_)
    refine mj_bipush (pc := 226) (v := (59 : Int32)) (by decide) dd_M_readCoast_226 ?_
    refine mj_icmp_ne (pc := 228) (tgt := 235) dd_M_readCoast_228 rfl (fun h28 => ?_) (fun h28 => ?_)
    · refine mj_iconst (pc := 231) (v := (1 : Int32)) (by decide) dd_M_readCoast_231 ?_
      refine mj_goto (pc := 232) (tgt := 236) dd_M_readCoast_232 rfl ?_
      refine mj_L (L' := [(0, .ref 48), (1, .int x1)]) [0, 1] rfl ?_
      exact T_M_readCoast_b236 (g := g) N e he k49 hk49 x1 (1 : Int32) q27.2
    · refine mj_L (L' := [(0, .ref 48), (1, .int x1)]) [0, 1] rfl ?_
      exact T_M_readCoast_b235 (g := g) N e he k49 hk49 x1 q27.2
  · refine mj_L (L' := [(0, .ref 48), (1, .int x1)]) [0, 1] rfl ?_
    exact T_M_readCoast_b235 (g := g) N e he k49 hk49 x1 M
def F_M_readCoast_b210 (N : Nat) (k49 : Int32 → Int32 → mj_M → Option (Int32 × mj_M)) (x1 : Int32) (M : mj_M) : Option (Int32 × mj_M) :=
    (F_M_bad M).bind (fun q38 =>
     F_M_readCoast_b214 N k49 x1 q38)
set_option maxRecDepth 20000 in
theorem T_M_readCoast_b210 {g : mj_G} (N : Nat) (e : Nat) (he : 4 ≤ e) (k49 : Int32 → Int32 → mj_M → Option (Int32 × mj_M)) (hk49 : ∀ (x1 : Int32) (x2 : Int32) (M : mj_M), mj_X g (mj_qI g) "WinterTellersModel" c_M_readCoast 4 (some .int) e 49 [(0, .ref 48), (1, .int x1), (2, .int x2)] [] M (k49 x1 x2 M)) (x1 : Int32) (M : mj_M) : mj_X g (mj_qI g) "WinterTellersModel" c_M_readCoast 4 (some .int) e 210 [(0, .ref 48), (1, .int x1)] [] M (F_M_readCoast_b210 N k49 x1 M) := by
  unfold F_M_readCoast_b210
  refine mj_aload_n (pc := 210) (i := 0) rfl dd_M_readCoast_210 ?_
  refine mj_callVV (pc := 211) (idx := 116) (b := 48) (As := []) (st := []) sh_48 cl_12 ev_M_bad ql_M_116 rfl (Nat.le_of_ble_eq_true rfl) (T_M_bad (g := g) e (by omega) M) dd_M_readCoast_211 (fun q38 hq38 => ?_)
  refine mj_L (L' := [(0, .ref 48), (1, .int x1)]) [0, 1] rfl ?_
  exact T_M_readCoast_b214 (g := g) N e he k49 hk49 x1 q38
def F_M_readCoast_b156 (N : Nat) (k49 : Int32 → Int32 → mj_M → Option (Int32 × mj_M)) (x1 : Int32) (x3 : Int32) (M : mj_M) : Option (Int32 × mj_M) :=
    if x3 = (116 : Int32) then
     (if (6 : Int32) ≤ (M 48 21) then
     (F_M_readCoast_b210 N k49 x1 M)
     else
     (mj_lt (mj_u M 48 3 ((M 48 3) + (1 : Int32))) (fun M32 =>
     (F_M_items_c61 N x3 ((3 : Int32) * (M32 48 21)) (3 : Int32) M32).bind (fun q33 =>
     mj_lt (mj_u q33 48 21 ((q33 48 21) + (1 : Int32))) (fun M34 =>
     F_M_readCoast_b214 N k49 x1 M34)))))
     else
     (F_M_readCoast_b210 N k49 x1 M)
set_option maxRecDepth 20000 in
theorem T_M_readCoast_b156 {g : mj_G} (N : Nat) (e : Nat) (he : 4 ≤ e) (k49 : Int32 → Int32 → mj_M → Option (Int32 × mj_M)) (hk49 : ∀ (x1 : Int32) (x2 : Int32) (M : mj_M), mj_X g (mj_qI g) "WinterTellersModel" c_M_readCoast 4 (some .int) e 49 [(0, .ref 48), (1, .int x1), (2, .int x2)] [] M (k49 x1 x2 M)) (x1 : Int32) (x3 : Int32) (M : mj_M) : mj_X g (mj_qI g) "WinterTellersModel" c_M_readCoast 4 (some .int) e 156 [(0, .ref 48), (1, .int x1), (3, .int x3)] [] M (F_M_readCoast_b156 N k49 x1 x3 M) := by
  unfold F_M_readCoast_b156
  refine mj_iload_n (pc := 156) (i := 3) rfl dd_M_readCoast_156 ?_
  refine mj_bipush (pc := 157) (v := (116 : Int32)) (by decide) dd_M_readCoast_157 ?_
  refine mj_icmp_ne (pc := 159) (tgt := 210) dd_M_readCoast_159 rfl (fun h30 => ?_) (fun h30 => ?_)
  · refine mj_aload_n (pc := 162) (i := 0) rfl dd_M_readCoast_162 ?_
    refine mj_getI (pc := 163) (b := 48) (k := 21) qf_M_229 sh_48 cl_12 rfl (by decide) rfl dd_M_readCoast_163 ?_
    refine mj_bipush (pc := 166) (v := (6 : Int32)) (by decide) dd_M_readCoast_166 ?_
    refine mj_icmp_ge (pc := 168) (tgt := 210) dd_M_readCoast_168 rfl (fun h31 => ?_) (fun h31 => ?_)
    · refine mj_L (L' := [(0, .ref 48), (1, .int x1)]) [0, 1] rfl ?_
      exact T_M_readCoast_b210 (g := g) N e he k49 hk49 x1 M
    · refine mj_aload_n (pc := 171) (i := 0) rfl dd_M_readCoast_171 ?_
      refine mj_dup (pc := 172) rfl dd_M_readCoast_172 ?_
      refine mj_getI (pc := 173) (b := 48) (k := 3) qf_M_100 sh_48 cl_12 rfl (by decide) rfl dd_M_readCoast_173 ?_
      refine mj_iconst (pc := 176) (v := (1 : Int32)) (by decide) dd_M_readCoast_176 ?_
      refine mj_iadd (pc := 177) dd_M_readCoast_177 ?_
      refine mj_putI (pc := 178) (b := 48) (k := 3) qf_M_100 sh_48 cl_12 rfl (by decide) (by decide) rfl rfl rfl dd_M_readCoast_178 (fun M32 _ => ?_)
      refine mj_aload_n (pc := 181) (i := 0) rfl dd_M_readCoast_181 ?_
      refine mj_iload_n (pc := 182) (i := 3) rfl dd_M_readCoast_182 ?_
      refine mj_aload_n (pc := 183) (i := 0) rfl dd_M_readCoast_183 ?_
      refine mj_getR (pc := 184) (b := 48) (k := 19) qf_M_46 sh_48 cl_12 rfl (by decide) (r := 61) rfl dd_M_readCoast_184 ?_
      refine mj_iconst (pc := 187) (v := (3 : Int32)) (by decide) dd_M_readCoast_187 ?_
      refine mj_aload_n (pc := 188) (i := 0) rfl dd_M_readCoast_188 ?_
      refine mj_getI (pc := 189) (b := 48) (k := 21) qf_M_229 sh_48 cl_12 rfl (by decide) rfl dd_M_readCoast_189 ?_
      refine mj_imul (pc := 192) dd_M_readCoast_192 ?_
      refine mj_iconst (pc := 193) (v := (3 : Int32)) (by decide) dd_M_readCoast_193 ?_
      refine mj_callVV (pc := 194) (idx := 232) (b := 48) (As := [.int x3, .ref 61, .int ((3 : Int32) * (M32 48 21)), .int (3 : Int32)]) (st := []) sh_48 cl_12 ev_M_items ql_M_232 rfl (Nat.le_of_ble_eq_true rfl) (T_M_items_c61 (g := g) N e (by omega) x3 ((3 : Int32) * (M32 48 21)) (3 : Int32) M32) dd_M_readCoast_194 (fun q33 hq33 => ?_)
      refine mj_aload_n (pc := 197) (i := 0) rfl dd_M_readCoast_197 ?_
      refine mj_dup (pc := 198) rfl dd_M_readCoast_198 ?_
      refine mj_getI (pc := 199) (b := 48) (k := 21) qf_M_229 sh_48 cl_12 rfl (by decide) rfl dd_M_readCoast_199 ?_
      refine mj_iconst (pc := 202) (v := (1 : Int32)) (by decide) dd_M_readCoast_202 ?_
      refine mj_iadd (pc := 203) dd_M_readCoast_203 ?_
      refine mj_putI (pc := 204) (b := 48) (k := 21) qf_M_229 sh_48 cl_12 rfl (by decide) (by decide) rfl rfl rfl dd_M_readCoast_204 (fun M34 _ => ?_)
      refine mj_goto (pc := 207) (tgt := 214) dd_M_readCoast_207 rfl ?_
      refine mj_L (L' := [(0, .ref 48), (1, .int x1)]) [0, 1] rfl ?_
      exact T_M_readCoast_b214 (g := g) N e he k49 hk49 x1 M34
  · refine mj_L (L' := [(0, .ref 48), (1, .int x1)]) [0, 1] rfl ?_
    exact T_M_readCoast_b210 (g := g) N e he k49 hk49 x1 M
def F_M_readCoast_b102 (N : Nat) (k49 : Int32 → Int32 → mj_M → Option (Int32 × mj_M)) (x1 : Int32) (x3 : Int32) (M : mj_M) : Option (Int32 × mj_M) :=
    if x3 = (104 : Int32) then
     (if (6 : Int32) ≤ (M 48 20) then
     (F_M_readCoast_b156 N k49 x1 x3 M)
     else
     (mj_lt (mj_u M 48 3 ((M 48 3) + (1 : Int32))) (fun M23 =>
     (F_M_items_c60 N x3 ((3 : Int32) * (M23 48 20)) (3 : Int32) M23).bind (fun q24 =>
     mj_lt (mj_u q24 48 20 ((q24 48 20) + (1 : Int32))) (fun M25 =>
     F_M_readCoast_b214 N k49 x1 M25)))))
     else
     (F_M_readCoast_b156 N k49 x1 x3 M)
set_option maxRecDepth 20000 in
theorem T_M_readCoast_b102 {g : mj_G} (N : Nat) (e : Nat) (he : 4 ≤ e) (k49 : Int32 → Int32 → mj_M → Option (Int32 × mj_M)) (hk49 : ∀ (x1 : Int32) (x2 : Int32) (M : mj_M), mj_X g (mj_qI g) "WinterTellersModel" c_M_readCoast 4 (some .int) e 49 [(0, .ref 48), (1, .int x1), (2, .int x2)] [] M (k49 x1 x2 M)) (x1 : Int32) (x3 : Int32) (M : mj_M) : mj_X g (mj_qI g) "WinterTellersModel" c_M_readCoast 4 (some .int) e 102 [(0, .ref 48), (1, .int x1), (3, .int x3)] [] M (F_M_readCoast_b102 N k49 x1 x3 M) := by
  unfold F_M_readCoast_b102
  refine mj_iload_n (pc := 102) (i := 3) rfl dd_M_readCoast_102 ?_
  refine mj_bipush (pc := 103) (v := (104 : Int32)) (by decide) dd_M_readCoast_103 ?_
  refine mj_icmp_ne (pc := 105) (tgt := 156) dd_M_readCoast_105 rfl (fun h21 => ?_) (fun h21 => ?_)
  · refine mj_aload_n (pc := 108) (i := 0) rfl dd_M_readCoast_108 ?_
    refine mj_getI (pc := 109) (b := 48) (k := 20) qf_M_226 sh_48 cl_12 rfl (by decide) rfl dd_M_readCoast_109 ?_
    refine mj_bipush (pc := 112) (v := (6 : Int32)) (by decide) dd_M_readCoast_112 ?_
    refine mj_icmp_ge (pc := 114) (tgt := 156) dd_M_readCoast_114 rfl (fun h22 => ?_) (fun h22 => ?_)
    · refine mj_L (L' := [(0, .ref 48), (1, .int x1), (3, .int x3)]) [0, 1, 2] rfl ?_
      exact T_M_readCoast_b156 (g := g) N e he k49 hk49 x1 x3 M
    · refine mj_aload_n (pc := 117) (i := 0) rfl dd_M_readCoast_117 ?_
      refine mj_dup (pc := 118) rfl dd_M_readCoast_118 ?_
      refine mj_getI (pc := 119) (b := 48) (k := 3) qf_M_100 sh_48 cl_12 rfl (by decide) rfl dd_M_readCoast_119 ?_
      refine mj_iconst (pc := 122) (v := (1 : Int32)) (by decide) dd_M_readCoast_122 ?_
      refine mj_iadd (pc := 123) dd_M_readCoast_123 ?_
      refine mj_putI (pc := 124) (b := 48) (k := 3) qf_M_100 sh_48 cl_12 rfl (by decide) (by decide) rfl rfl rfl dd_M_readCoast_124 (fun M23 _ => ?_)
      refine mj_aload_n (pc := 127) (i := 0) rfl dd_M_readCoast_127 ?_
      refine mj_iload_n (pc := 128) (i := 3) rfl dd_M_readCoast_128 ?_
      refine mj_aload_n (pc := 129) (i := 0) rfl dd_M_readCoast_129 ?_
      refine mj_getR (pc := 130) (b := 48) (k := 18) qf_M_43 sh_48 cl_12 rfl (by decide) (r := 60) rfl dd_M_readCoast_130 ?_
      refine mj_iconst (pc := 133) (v := (3 : Int32)) (by decide) dd_M_readCoast_133 ?_
      refine mj_aload_n (pc := 134) (i := 0) rfl dd_M_readCoast_134 ?_
      refine mj_getI (pc := 135) (b := 48) (k := 20) qf_M_226 sh_48 cl_12 rfl (by decide) rfl dd_M_readCoast_135 ?_
      refine mj_imul (pc := 138) dd_M_readCoast_138 ?_
      refine mj_iconst (pc := 139) (v := (3 : Int32)) (by decide) dd_M_readCoast_139 ?_
      refine mj_callVV (pc := 140) (idx := 232) (b := 48) (As := [.int x3, .ref 60, .int ((3 : Int32) * (M23 48 20)), .int (3 : Int32)]) (st := []) sh_48 cl_12 ev_M_items ql_M_232 rfl (Nat.le_of_ble_eq_true rfl) (T_M_items_c60 (g := g) N e (by omega) x3 ((3 : Int32) * (M23 48 20)) (3 : Int32) M23) dd_M_readCoast_140 (fun q24 hq24 => ?_)
      refine mj_aload_n (pc := 143) (i := 0) rfl dd_M_readCoast_143 ?_
      refine mj_dup (pc := 144) rfl dd_M_readCoast_144 ?_
      refine mj_getI (pc := 145) (b := 48) (k := 20) qf_M_226 sh_48 cl_12 rfl (by decide) rfl dd_M_readCoast_145 ?_
      refine mj_iconst (pc := 148) (v := (1 : Int32)) (by decide) dd_M_readCoast_148 ?_
      refine mj_iadd (pc := 149) dd_M_readCoast_149 ?_
      refine mj_putI (pc := 150) (b := 48) (k := 20) qf_M_226 sh_48 cl_12 rfl (by decide) (by decide) rfl rfl rfl dd_M_readCoast_150 (fun M25 _ => ?_)
      refine mj_goto (pc := 153) (tgt := 214) dd_M_readCoast_153 rfl ?_
      refine mj_L (L' := [(0, .ref 48), (1, .int x1)]) [0, 1] rfl ?_
      exact T_M_readCoast_b214 (g := g) N e he k49 hk49 x1 M25
  · refine mj_L (L' := [(0, .ref 48), (1, .int x1), (3, .int x3)]) [0, 1, 2] rfl ?_
    exact T_M_readCoast_b156 (g := g) N e he k49 hk49 x1 x3 M
def F_M_readCoast_b49 (N : Nat) : Nat → Int32 → Int32 → mj_M → Option (Int32 × mj_M)
  | 0, _, _, _ => none
  | n + 1, x1, x2, M =>
    if x2 = (0) then
     (F_M_readCoast_b258 N M)
     else
     (if (M 48 4) = (-1 : Int32) then
     ((F_M_look N M).bind (fun q10 =>
     if q10.1 = (115 : Int32) then
     (if x1 = (0) then
     (mj_lt (mj_u q10.2 48 3 ((q10.2 48 3) + (1 : Int32))) (fun M13 =>
     (F_M_items_c59 N q10.1 (0 : Int32) (4 : Int32) M13).bind (fun q14 =>
     F_M_readCoast_b214 N (F_M_readCoast_b49 N n) (1 : Int32) q14)))
     else
     (F_M_readCoast_b102 N (F_M_readCoast_b49 N n) x1 q10.1 q10.2))
     else
     (F_M_readCoast_b102 N (F_M_readCoast_b49 N n) x1 q10.1 q10.2)))
     else
     (F_M_readCoast_b258 N M))
set_option maxRecDepth 20000 in
theorem T_M_readCoast_b49 {g : mj_G} (N : Nat) (e : Nat) (he : 4 ≤ e) : ∀ (n : Nat) (x1 : Int32) (x2 : Int32) (M : mj_M), mj_X g (mj_qI g) "WinterTellersModel" c_M_readCoast 4 (some .int) e 49 [(0, .ref 48), (1, .int x1), (2, .int x2)] [] M (F_M_readCoast_b49 N n x1 x2 M) := by
  intro n
  induction n with
  | zero => intro x1 x2 M; exact mj_none
  | succ n ih =>
    intro x1 x2 M
    rw [F_M_readCoast_b49]
    refine mj_iload_n (pc := 49) (i := 2) rfl dd_M_readCoast_49 ?_
    refine mj_if_eq (pc := 50) (tgt := 258) dd_M_readCoast_50 rfl (fun h8 => ?_) (fun h8 => ?_)
    · refine mj_L (L' := [(0, .ref 48)]) [0] rfl ?_
      exact T_M_readCoast_b258 (g := g) N e he M
    · refine mj_aload_n (pc := 53) (i := 0) rfl dd_M_readCoast_53 ?_
      refine mj_getI (pc := 54) (b := 48) (k := 4) qf_M_107 sh_48 cl_12 rfl (by decide) rfl dd_M_readCoast_54 ?_
      refine mj_iconst (pc := 57) (v := (-1 : Int32)) (by decide) dd_M_readCoast_57 ?_
      refine mj_icmp_ne (pc := 58) (tgt := 258) dd_M_readCoast_58 rfl (fun h9 => ?_) (fun h9 => ?_)
      · refine mj_aload_n (pc := 61) (i := 0) rfl dd_M_readCoast_61 ?_
        refine mj_callVI (pc := 62) (idx := 119) (b := 48) (As := []) (st := []) sh_48 cl_12 ev_M_look ql_M_119 rfl (Nat.le_of_ble_eq_true rfl) (T_M_look (g := g) N e (by omega) M) dd_M_readCoast_62 (fun q10 hq10 => ?_)
        refine mj_istore_n (pc := 65) (by decide) dd_M_readCoast_65 ?_
        refine mj_L (L' := [(3, .int q10.1), (0, .ref 48), (1, .int x1)]) [0, 1, 2] rfl ?_
        refine mj_iload_n (pc := 66) (i := 3) rfl dd_M_readCoast_66 ?_
        refine mj_bipush (pc := 67) (v := (115 : Int32)) (by decide) dd_M_readCoast_67 ?_
        refine mj_icmp_ne (pc := 69) (tgt := 102) dd_M_readCoast_69 rfl (fun h11 => ?_) (fun h11 => ?_)
        · refine mj_iload_n (pc := 72) (i := 1) rfl dd_M_readCoast_72 ?_
          refine mj_if_ne (pc := 73) (tgt := 102) dd_M_readCoast_73 rfl (fun h12 => ?_) (fun h12 => ?_)
          · refine mj_iconst (pc := 76) (v := (1 : Int32)) (by decide) dd_M_readCoast_76 ?_
            refine mj_istore_n (pc := 77) (by decide) dd_M_readCoast_77 ?_
            refine mj_L (L' := [(1, .int (1 : Int32)), (3, .int q10.1), (0, .ref 48)]) [0, 1, 2] rfl ?_
            refine mj_aload_n (pc := 78) (i := 0) rfl dd_M_readCoast_78 ?_
            refine mj_dup (pc := 79) rfl dd_M_readCoast_79 ?_
            refine mj_getI (pc := 80) (b := 48) (k := 3) qf_M_100 sh_48 cl_12 rfl (by decide) rfl dd_M_readCoast_80 ?_
            refine mj_iconst (pc := 83) (v := (1 : Int32)) (by decide) dd_M_readCoast_83 ?_
            refine mj_iadd (pc := 84) dd_M_readCoast_84 ?_
            refine mj_putI (pc := 85) (b := 48) (k := 3) qf_M_100 sh_48 cl_12 rfl (by decide) (by decide) rfl rfl rfl dd_M_readCoast_85 (fun M13 _ => ?_)
            refine mj_aload_n (pc := 88) (i := 0) rfl dd_M_readCoast_88 ?_
            refine mj_iload_n (pc := 89) (i := 3) rfl dd_M_readCoast_89 ?_
            refine mj_aload_n (pc := 90) (i := 0) rfl dd_M_readCoast_90 ?_
            refine mj_getR (pc := 91) (b := 48) (k := 17) qf_M_40 sh_48 cl_12 rfl (by decide) (r := 59) rfl dd_M_readCoast_91 ?_
            refine mj_iconst (pc := 94) (v := (0 : Int32)) (by decide) dd_M_readCoast_94 ?_
            refine mj_iconst (pc := 95) (v := (4 : Int32)) (by decide) dd_M_readCoast_95 ?_
            refine mj_callVV (pc := 96) (idx := 232) (b := 48) (As := [.int q10.1, .ref 59, .int (0 : Int32), .int (4 : Int32)]) (st := []) sh_48 cl_12 ev_M_items ql_M_232 rfl (Nat.le_of_ble_eq_true rfl) (T_M_items_c59 (g := g) N e (by omega) q10.1 (0 : Int32) (4 : Int32) M13) dd_M_readCoast_96 (fun q14 hq14 => ?_)
            refine mj_goto (pc := 99) (tgt := 214) dd_M_readCoast_99 rfl ?_
            refine mj_L (L' := [(0, .ref 48), (1, .int (1 : Int32))]) [2, 0] rfl ?_
            exact T_M_readCoast_b214 (g := g) N e he (F_M_readCoast_b49 N n) ih (1 : Int32) q14
          · refine mj_L (L' := [(0, .ref 48), (1, .int x1), (3, .int q10.1)]) [1, 2, 0] rfl ?_
            exact T_M_readCoast_b102 (g := g) N e he (F_M_readCoast_b49 N n) ih x1 q10.1 q10.2
        · refine mj_L (L' := [(0, .ref 48), (1, .int x1), (3, .int q10.1)]) [1, 2, 0] rfl ?_
          exact T_M_readCoast_b102 (g := g) N e he (F_M_readCoast_b49 N n) ih x1 q10.1 q10.2
      · refine mj_L (L' := [(0, .ref 48)]) [0] rfl ?_
        exact T_M_readCoast_b258 (g := g) N e he M
def F_M_readCoast_b24 (N : Nat) : Nat → Int32 → Int32 → mj_M → Option (Int32 × mj_M)
  | 0, _, _, _ => none
  | n + 1, x1, x2, M =>
    if (4 : Int32) ≤ x2 then
     (F_M_readCoast_b49 N N x1 (1 : Int32) M)
     else
     ((F_M_usual (115 : Int32) x2 M).bind (fun q6 =>
     mj_ck x2 4 (mj_lt (mj_u q6.2 59 x2.toNatClampNeg q6.1) (fun M7 =>
     F_M_readCoast_b24 N n x1 (x2 + (1 : Int32)) M7))))
set_option maxRecDepth 20000 in
theorem T_M_readCoast_b24 {g : mj_G} (N : Nat) (e : Nat) (he : 4 ≤ e) : ∀ (n : Nat) (x1 : Int32) (x2 : Int32) (M : mj_M), mj_X g (mj_qI g) "WinterTellersModel" c_M_readCoast 4 (some .int) e 24 [(0, .ref 48), (1, .int x1), (2, .int x2)] [] M (F_M_readCoast_b24 N n x1 x2 M) := by
  intro n
  induction n with
  | zero => intro x1 x2 M; exact mj_none
  | succ n ih =>
    intro x1 x2 M
    rw [F_M_readCoast_b24]
    refine mj_iload_n (pc := 24) (i := 2) rfl dd_M_readCoast_24 ?_
    refine mj_iconst (pc := 25) (v := (4 : Int32)) (by decide) dd_M_readCoast_25 ?_
    refine mj_icmp_ge (pc := 26) (tgt := 47) dd_M_readCoast_26 rfl (fun h5 => ?_) (fun h5 => ?_)
    · refine mj_iconst (pc := 47) (v := (1 : Int32)) (by decide) dd_M_readCoast_47 ?_
      refine mj_istore_n (pc := 48) (by decide) dd_M_readCoast_48 ?_
      refine mj_L (L' := [(2, .int (1 : Int32)), (0, .ref 48), (1, .int x1)]) [0, 1, 2] rfl ?_
      refine mj_L (L' := [(0, .ref 48), (1, .int x1), (2, .int (1 : Int32))]) [1, 2, 0] rfl ?_
      exact T_M_readCoast_b49 (g := g) N e he N x1 (1 : Int32) M
    · refine mj_aload_n (pc := 29) (i := 0) rfl dd_M_readCoast_29 ?_
      refine mj_getR (pc := 30) (b := 48) (k := 17) qf_M_40 sh_48 cl_12 rfl (by decide) (r := 59) rfl dd_M_readCoast_30 ?_
      refine mj_iload_n (pc := 33) (i := 2) rfl dd_M_readCoast_33 ?_
      refine mj_bipush (pc := 34) (v := (115 : Int32)) (by decide) dd_M_readCoast_34 ?_
      refine mj_iload_n (pc := 36) (i := 2) rfl dd_M_readCoast_36 ?_
      refine mj_callSI (pc := 37) (idx := 209) (As := [.int (115 : Int32), .int x2]) (st := [.int x2, .ref 59]) es_M_usual ql_M_209 rfl (Nat.le_of_ble_eq_true rfl) (T_M_usual (g := g) e (by omega) (115 : Int32) x2 M) dd_M_readCoast_37 (fun q6 hq6 => ?_)
      refine mj_iast (pc := 40) sh_59 dd_M_readCoast_40 (fun M7 _ => ?_)
      refine mj_iinc (pc := 41) (i := 2) (z := (1 : Int32)) rfl (by decide) (by decide) dd_M_readCoast_41 ?_
      refine mj_L (L' := [(2, .int (x2 + (1 : Int32))), (0, .ref 48), (1, .int x1)]) [0, 1, 2] rfl ?_
      refine mj_goto (pc := 44) (tgt := 24) dd_M_readCoast_44 rfl ?_
      refine mj_L (L' := [(0, .ref 48), (1, .int x1), (2, .int (x2 + (1 : Int32)))]) [1, 2, 0] rfl ?_
      exact ih x1 (x2 + (1 : Int32)) M7
def F_M_readCoast (N : Nat) (M : mj_M) : Option (Int32 × mj_M) :=
    mj_lt (mj_u M 48 3 (0 : Int32)) (fun M1 =>
     mj_lt (mj_u M1 48 4 (-1 : Int32)) (fun M2 =>
     mj_lt (mj_u M2 48 20 (0 : Int32)) (fun M3 =>
     mj_lt (mj_u M3 48 21 (0 : Int32)) (fun M4 =>
     F_M_readCoast_b24 N N (0 : Int32) (0 : Int32) M4))))
set_option maxRecDepth 20000 in
theorem T_M_readCoast {g : mj_G} (N : Nat) : ∀ d, 5 ≤ d → ∀ (M : mj_M), mj_Mt g (mj_qI g) d y_M_readCoast c_M_readCoast 4 (some .int) [.ref 48] M (F_M_readCoast N M) := by
  intro d hd M
  obtain ⟨e, rfl⟩ : ∃ e, d = e + 1 := ⟨d - 1, by omega⟩
  have he : 4 ≤ e := by omega
  refine mj_met (by decide +kernel) (Nat.le_of_ble_eq_true rfl) ?_
  unfold F_M_readCoast
  refine mj_L (L' := [(0, .ref 48)]) [0] rfl ?_
  refine mj_aload_n (pc := 0) (i := 0) rfl dd_M_readCoast_0 ?_
  refine mj_iconst (pc := 1) (v := (0 : Int32)) (by decide) dd_M_readCoast_1 ?_
  refine mj_putI (pc := 2) (b := 48) (k := 3) qf_M_100 sh_48 cl_12 rfl (by decide) (by decide) rfl rfl rfl dd_M_readCoast_2 (fun M1 _ => ?_)
  refine mj_aload_n (pc := 5) (i := 0) rfl dd_M_readCoast_5 ?_
  refine mj_iconst (pc := 6) (v := (-1 : Int32)) (by decide) dd_M_readCoast_6 ?_
  refine mj_putI (pc := 7) (b := 48) (k := 4) qf_M_107 sh_48 cl_12 rfl (by decide) (by decide) rfl rfl rfl dd_M_readCoast_7 (fun M2 _ => ?_)
  refine mj_aload_n (pc := 10) (i := 0) rfl dd_M_readCoast_10 ?_
  refine mj_iconst (pc := 11) (v := (0 : Int32)) (by decide) dd_M_readCoast_11 ?_
  refine mj_putI (pc := 12) (b := 48) (k := 20) qf_M_226 sh_48 cl_12 rfl (by decide) (by decide) rfl rfl rfl dd_M_readCoast_12 (fun M3 _ => ?_)
  refine mj_aload_n (pc := 15) (i := 0) rfl dd_M_readCoast_15 ?_
  refine mj_iconst (pc := 16) (v := (0 : Int32)) (by decide) dd_M_readCoast_16 ?_
  refine mj_putI (pc := 17) (b := 48) (k := 21) qf_M_229 sh_48 cl_12 rfl (by decide) (by decide) rfl rfl rfl dd_M_readCoast_17 (fun M4 _ => ?_)
  refine mj_iconst (pc := 20) (v := (0 : Int32)) (by decide) dd_M_readCoast_20 ?_
  refine mj_istore_n (pc := 21) (by decide) dd_M_readCoast_21 ?_
  refine mj_L (L' := [(1, .int (0 : Int32)), (0, .ref 48)]) [0, 1] rfl ?_
  refine mj_iconst (pc := 22) (v := (0 : Int32)) (by decide) dd_M_readCoast_22 ?_
  refine mj_istore_n (pc := 23) (by decide) dd_M_readCoast_23 ?_
  refine mj_L (L' := [(2, .int (0 : Int32)), (1, .int (0 : Int32)), (0, .ref 48)]) [0, 1, 2] rfl ?_
  refine mj_L (L' := [(0, .ref 48), (1, .int (0 : Int32)), (2, .int (0 : Int32))]) [2, 1, 0] rfl ?_
  exact T_M_readCoast_b24 (g := g) N e he N (0 : Int32) (0 : Int32) M4
def F_M_fault (N : Nat) (x1 : Int32) (M : mj_M) : Option (Int32 × mj_M) :=
    if x1 = (0) then
     ((F_M_readCoast N M).bind (fun q4 =>
     some (q4.1, q4.2)))
     else
     (if x1 = (1 : Int32) then
     ((F_M_readLaw N (4 : Int32) M).bind (fun q3 =>
     some (q3.1, q3.2)))
     else
     (some ((-2 : Int32), M)))
set_option maxRecDepth 20000 in
theorem T_M_fault {g : mj_G} (N : Nat) : ∀ d, 111 ≤ d → ∀ (x1 : Int32) (M : mj_M), mj_Mt g (mj_qI g) d y_M_fault c_M_fault 2 (some .int) [.ref 48, .int x1] M (F_M_fault N x1 M) := by
  intro d hd x1 M
  obtain ⟨e, rfl⟩ : ∃ e, d = e + 1 := ⟨d - 1, by omega⟩
  have he : 110 ≤ e := by omega
  refine mj_met (by decide +kernel) (Nat.le_of_ble_eq_true rfl) ?_
  unfold F_M_fault
  refine mj_L (L' := [(0, .ref 48), (1, .int x1)]) [0, 1] rfl ?_
  refine mj_iload_n (pc := 0) (i := 1) rfl dd_M_fault_0 ?_
  refine mj_if_ne (pc := 1) (tgt := 11) dd_M_fault_1 rfl (fun h1 => ?_) (fun h1 => ?_)
  · refine mj_aload_n (pc := 4) (i := 0) rfl dd_M_fault_4 ?_
    refine mj_callVI (pc := 5) (idx := 236) (b := 48) (As := []) (st := []) sh_48 cl_12 ev_M_readCoast ql_M_236 rfl (Nat.le_of_ble_eq_true rfl) (T_M_readCoast (g := g) N e (by omega) M) dd_M_fault_5 (fun q4 hq4 => ?_)
    refine mj_goto (pc := 8) (tgt := 26) dd_M_fault_8 rfl ?_
    exact mj_iret dd_M_fault_26 rfl rfl
  · refine mj_iload_n (pc := 11) (i := 1) rfl dd_M_fault_11 ?_
    refine mj_iconst (pc := 12) (v := (1 : Int32)) (by decide) dd_M_fault_12 ?_
    refine mj_icmp_ne (pc := 13) (tgt := 24) dd_M_fault_13 rfl (fun h2 => ?_) (fun h2 => ?_)
    · refine mj_aload_n (pc := 16) (i := 0) rfl dd_M_fault_16 ?_
      refine mj_iconst (pc := 17) (v := (4 : Int32)) (by decide) dd_M_fault_17 ?_
      refine mj_callVI (pc := 18) (idx := 239) (b := 48) (As := [.int (4 : Int32)]) (st := []) sh_48 cl_12 ev_M_readLaw ql_M_239 rfl (Nat.le_of_ble_eq_true rfl) (T_M_readLaw (g := g) N e (by omega) (4 : Int32) M) dd_M_fault_18 (fun q3 hq3 => ?_)
      refine mj_goto (pc := 21) (tgt := 26) dd_M_fault_21 rfl ?_
      exact mj_iret dd_M_fault_26 rfl rfl
    · refine mj_bipush (pc := 24) (v := (-2 : Int32)) (by decide) dd_M_fault_24 ?_
      exact mj_iret dd_M_fault_26 rfl rfl
def F_Coast_become_c41 (M : mj_M) : Option (mj_M) :=
    mj_lt (mj_u M 13 0 (M 41 0)) (fun M1 =>
     mj_lt (mj_u M1 13 1 (M1 41 1)) (fun M2 =>
     mj_lt (mj_u M2 13 2 (M2 41 2)) (fun M3 =>
     mj_lt (mj_u M3 13 3 (M3 41 3)) (fun M4 =>
     mj_lt (mj_u M4 13 4 (M4 41 4)) (fun M5 =>
     mj_lt (mj_u M5 13 5 (M5 41 5)) (fun M6 =>
     mj_ac (0 : Int32) (0 : Int32) (6 : Int32) 6 6 (mj_lt (mj_a M6 14 (va_cpy (M6 42) (M6 14) (0 : Int32).toNatClampNeg (0 : Int32).toNatClampNeg (6 : Int32).toNatClampNeg)) (fun M7 =>
     mj_ac (0 : Int32) (0 : Int32) (6 : Int32) 6 6 (mj_lt (mj_a M7 15 (va_cpy (M7 43) (M7 15) (0 : Int32).toNatClampNeg (0 : Int32).toNatClampNeg (6 : Int32).toNatClampNeg)) (fun M8 =>
     mj_ac (0 : Int32) (0 : Int32) (6 : Int32) 6 6 (mj_lt (mj_a M8 16 (va_cpy (M8 44) (M8 16) (0 : Int32).toNatClampNeg (0 : Int32).toNatClampNeg (6 : Int32).toNatClampNeg)) (fun M9 =>
     mj_ac (0 : Int32) (0 : Int32) (6 : Int32) 6 6 (mj_lt (mj_a M9 17 (va_cpy (M9 45) (M9 17) (0 : Int32).toNatClampNeg (0 : Int32).toNatClampNeg (6 : Int32).toNatClampNeg)) (fun M10 =>
     mj_ac (0 : Int32) (0 : Int32) (6 : Int32) 6 6 (mj_lt (mj_a M10 18 (va_cpy (M10 46) (M10 18) (0 : Int32).toNatClampNeg (0 : Int32).toNatClampNeg (6 : Int32).toNatClampNeg)) (fun M11 =>
     mj_ac (0 : Int32) (0 : Int32) (6 : Int32) 6 6 (mj_lt (mj_a M11 19 (va_cpy (M11 47) (M11 19) (0 : Int32).toNatClampNeg (0 : Int32).toNatClampNeg (6 : Int32).toNatClampNeg)) (fun M12 =>
     some M12))))))))))))))))))
set_option maxRecDepth 20000 in
theorem T_Coast_become_c41 {g : mj_G} : ∀ d, 1 ≤ d → ∀ (M : mj_M), mj_Mt g (mj_qV g) d y_Coast_become c_Coast_become 2 none [.ref 13, .ref 41] M (F_Coast_become_c41 M) := by
  intro d hd M
  obtain ⟨e, rfl⟩ : ∃ e, d = e + 1 := ⟨d - 1, by omega⟩
  have he : 0 ≤ e := by omega
  refine mj_met (by decide +kernel) (Nat.le_of_ble_eq_true rfl) ?_
  unfold F_Coast_become_c41
  refine mj_L (L' := [(0, .ref 13), (1, .ref 41)]) [0, 1] rfl ?_
  refine mj_aload_n (pc := 0) (i := 0) rfl dd_Coast_become_0 ?_
  refine mj_aload_n (pc := 1) (i := 1) rfl dd_Coast_become_1 ?_
  refine mj_getI (pc := 2) (b := 41) (k := 0) qf_Coast_30 sh_41 cl_0 rfl (by decide) rfl dd_Coast_become_2 ?_
  refine mj_putI (pc := 5) (b := 13) (k := 0) qf_Coast_30 sh_13 cl_0 rfl (by decide) (by decide) rfl rfl rfl dd_Coast_become_5 (fun M1 _ => ?_)
  refine mj_aload_n (pc := 8) (i := 0) rfl dd_Coast_become_8 ?_
  refine mj_aload_n (pc := 9) (i := 1) rfl dd_Coast_become_9 ?_
  refine mj_getI (pc := 10) (b := 41) (k := 1) qf_Coast_34 sh_41 cl_0 rfl (by decide) rfl dd_Coast_become_10 ?_
  refine mj_putI (pc := 13) (b := 13) (k := 1) qf_Coast_34 sh_13 cl_0 rfl (by decide) (by decide) rfl rfl rfl dd_Coast_become_13 (fun M2 _ => ?_)
  refine mj_aload_n (pc := 16) (i := 0) rfl dd_Coast_become_16 ?_
  refine mj_aload_n (pc := 17) (i := 1) rfl dd_Coast_become_17 ?_
  refine mj_getI (pc := 18) (b := 41) (k := 2) qf_Coast_44 sh_41 cl_0 rfl (by decide) rfl dd_Coast_become_18 ?_
  refine mj_putI (pc := 21) (b := 13) (k := 2) qf_Coast_44 sh_13 cl_0 rfl (by decide) (by decide) rfl rfl rfl dd_Coast_become_21 (fun M3 _ => ?_)
  refine mj_aload_n (pc := 24) (i := 0) rfl dd_Coast_become_24 ?_
  refine mj_aload_n (pc := 25) (i := 1) rfl dd_Coast_become_25 ?_
  refine mj_getI (pc := 26) (b := 41) (k := 3) qf_Coast_47 sh_41 cl_0 rfl (by decide) rfl dd_Coast_become_26 ?_
  refine mj_putI (pc := 29) (b := 13) (k := 3) qf_Coast_47 sh_13 cl_0 rfl (by decide) (by decide) rfl rfl rfl dd_Coast_become_29 (fun M4 _ => ?_)
  refine mj_aload_n (pc := 32) (i := 0) rfl dd_Coast_become_32 ?_
  refine mj_aload_n (pc := 33) (i := 1) rfl dd_Coast_become_33 ?_
  refine mj_getI (pc := 34) (b := 41) (k := 4) qf_Coast_50 sh_41 cl_0 rfl (by decide) rfl dd_Coast_become_34 ?_
  refine mj_putI (pc := 37) (b := 13) (k := 4) qf_Coast_50 sh_13 cl_0 rfl (by decide) (by decide) rfl rfl rfl dd_Coast_become_37 (fun M5 _ => ?_)
  refine mj_aload_n (pc := 40) (i := 0) rfl dd_Coast_become_40 ?_
  refine mj_aload_n (pc := 41) (i := 1) rfl dd_Coast_become_41 ?_
  refine mj_getI (pc := 42) (b := 41) (k := 5) qf_Coast_53 sh_41 cl_0 rfl (by decide) rfl dd_Coast_become_42 ?_
  refine mj_putI (pc := 45) (b := 13) (k := 5) qf_Coast_53 sh_13 cl_0 rfl (by decide) (by decide) rfl rfl rfl dd_Coast_become_45 (fun M6 _ => ?_)
  refine mj_aload_n (pc := 48) (i := 1) rfl dd_Coast_become_48 ?_
  refine mj_getR (pc := 49) (b := 41) (k := 6) qf_Coast_9 sh_41 cl_0 rfl (by decide) (r := 42) rfl dd_Coast_become_49 ?_
  refine mj_iconst (pc := 52) (v := (0 : Int32)) (by decide) dd_Coast_become_52 ?_
  refine mj_aload_n (pc := 53) (i := 0) rfl dd_Coast_become_53 ?_
  refine mj_getR (pc := 54) (b := 13) (k := 6) qf_Coast_9 sh_13 cl_0 rfl (by decide) (r := 14) rfl dd_Coast_become_54 ?_
  refine mj_iconst (pc := 57) (v := (0 : Int32)) (by decide) dd_Coast_become_57 ?_
  refine mj_bipush (pc := 58) (v := (6 : Int32)) (by decide) dd_Coast_become_58 ?_
  refine mj_copy (pc := 60) (idx := 56) sh_42 sh_14 qm_Coast_56 (Nat.le_of_ble_eq_true rfl) dd_Coast_become_60 (fun M7 _ => ?_)
  refine mj_aload_n (pc := 63) (i := 1) rfl dd_Coast_become_63 ?_
  refine mj_getR (pc := 64) (b := 41) (k := 7) qf_Coast_15 sh_41 cl_0 rfl (by decide) (r := 43) rfl dd_Coast_become_64 ?_
  refine mj_iconst (pc := 67) (v := (0 : Int32)) (by decide) dd_Coast_become_67 ?_
  refine mj_aload_n (pc := 68) (i := 0) rfl dd_Coast_become_68 ?_
  refine mj_getR (pc := 69) (b := 13) (k := 7) qf_Coast_15 sh_13 cl_0 rfl (by decide) (r := 15) rfl dd_Coast_become_69 ?_
  refine mj_iconst (pc := 72) (v := (0 : Int32)) (by decide) dd_Coast_become_72 ?_
  refine mj_bipush (pc := 73) (v := (6 : Int32)) (by decide) dd_Coast_become_73 ?_
  refine mj_copy (pc := 75) (idx := 56) sh_43 sh_15 qm_Coast_56 (Nat.le_of_ble_eq_true rfl) dd_Coast_become_75 (fun M8 _ => ?_)
  refine mj_aload_n (pc := 78) (i := 1) rfl dd_Coast_become_78 ?_
  refine mj_getR (pc := 79) (b := 41) (k := 8) qf_Coast_18 sh_41 cl_0 rfl (by decide) (r := 44) rfl dd_Coast_become_79 ?_
  refine mj_iconst (pc := 82) (v := (0 : Int32)) (by decide) dd_Coast_become_82 ?_
  refine mj_aload_n (pc := 83) (i := 0) rfl dd_Coast_become_83 ?_
  refine mj_getR (pc := 84) (b := 13) (k := 8) qf_Coast_18 sh_13 cl_0 rfl (by decide) (r := 16) rfl dd_Coast_become_84 ?_
  refine mj_iconst (pc := 87) (v := (0 : Int32)) (by decide) dd_Coast_become_87 ?_
  refine mj_bipush (pc := 88) (v := (6 : Int32)) (by decide) dd_Coast_become_88 ?_
  refine mj_copy (pc := 90) (idx := 56) sh_44 sh_16 qm_Coast_56 (Nat.le_of_ble_eq_true rfl) dd_Coast_become_90 (fun M9 _ => ?_)
  refine mj_aload_n (pc := 93) (i := 1) rfl dd_Coast_become_93 ?_
  refine mj_getR (pc := 94) (b := 41) (k := 9) qf_Coast_21 sh_41 cl_0 rfl (by decide) (r := 45) rfl dd_Coast_become_94 ?_
  refine mj_iconst (pc := 97) (v := (0 : Int32)) (by decide) dd_Coast_become_97 ?_
  refine mj_aload_n (pc := 98) (i := 0) rfl dd_Coast_become_98 ?_
  refine mj_getR (pc := 99) (b := 13) (k := 9) qf_Coast_21 sh_13 cl_0 rfl (by decide) (r := 17) rfl dd_Coast_become_99 ?_
  refine mj_iconst (pc := 102) (v := (0 : Int32)) (by decide) dd_Coast_become_102 ?_
  refine mj_bipush (pc := 103) (v := (6 : Int32)) (by decide) dd_Coast_become_103 ?_
  refine mj_copy (pc := 105) (idx := 56) sh_45 sh_17 qm_Coast_56 (Nat.le_of_ble_eq_true rfl) dd_Coast_become_105 (fun M10 _ => ?_)
  refine mj_aload_n (pc := 108) (i := 1) rfl dd_Coast_become_108 ?_
  refine mj_getR (pc := 109) (b := 41) (k := 10) qf_Coast_24 sh_41 cl_0 rfl (by decide) (r := 46) rfl dd_Coast_become_109 ?_
  refine mj_iconst (pc := 112) (v := (0 : Int32)) (by decide) dd_Coast_become_112 ?_
  refine mj_aload_n (pc := 113) (i := 0) rfl dd_Coast_become_113 ?_
  refine mj_getR (pc := 114) (b := 13) (k := 10) qf_Coast_24 sh_13 cl_0 rfl (by decide) (r := 18) rfl dd_Coast_become_114 ?_
  refine mj_iconst (pc := 117) (v := (0 : Int32)) (by decide) dd_Coast_become_117 ?_
  refine mj_bipush (pc := 118) (v := (6 : Int32)) (by decide) dd_Coast_become_118 ?_
  refine mj_copy (pc := 120) (idx := 56) sh_46 sh_18 qm_Coast_56 (Nat.le_of_ble_eq_true rfl) dd_Coast_become_120 (fun M11 _ => ?_)
  refine mj_aload_n (pc := 123) (i := 1) rfl dd_Coast_become_123 ?_
  refine mj_getR (pc := 124) (b := 41) (k := 11) qf_Coast_27 sh_41 cl_0 rfl (by decide) (r := 47) rfl dd_Coast_become_124 ?_
  refine mj_iconst (pc := 127) (v := (0 : Int32)) (by decide) dd_Coast_become_127 ?_
  refine mj_aload_n (pc := 128) (i := 0) rfl dd_Coast_become_128 ?_
  refine mj_getR (pc := 129) (b := 13) (k := 11) qf_Coast_27 sh_13 cl_0 rfl (by decide) (r := 19) rfl dd_Coast_become_129 ?_
  refine mj_iconst (pc := 132) (v := (0 : Int32)) (by decide) dd_Coast_become_132 ?_
  refine mj_bipush (pc := 133) (v := (6 : Int32)) (by decide) dd_Coast_become_133 ?_
  refine mj_copy (pc := 135) (idx := 56) sh_47 sh_19 qm_Coast_56 (Nat.le_of_ble_eq_true rfl) dd_Coast_become_135 (fun M12 _ => ?_)
  exact mj_vret dd_Coast_become_138 rfl rfl
def F_Coast_allTales (M : mj_M) : Option (Int32 × mj_M) :=
    some (((1 : Int32) <<< ((M 13 1) &&& 31)) - (1 : Int32), M)
set_option maxRecDepth 20000 in
theorem T_Coast_allTales {g : mj_G} : ∀ d, 1 ≤ d → ∀ (M : mj_M), mj_Mt g (mj_qI g) d y_Coast_allTales c_Coast_allTales 1 (some .int) [.ref 13] M (F_Coast_allTales M) := by
  intro d hd M
  obtain ⟨e, rfl⟩ : ∃ e, d = e + 1 := ⟨d - 1, by omega⟩
  have he : 0 ≤ e := by omega
  refine mj_met (by decide +kernel) (Nat.le_of_ble_eq_true rfl) ?_
  unfold F_Coast_allTales
  refine mj_L (L' := [(0, .ref 13)]) [0] rfl ?_
  refine mj_iconst (pc := 0) (v := (1 : Int32)) (by decide) dd_Coast_allTales_0 ?_
  refine mj_aload_n (pc := 1) (i := 0) rfl dd_Coast_allTales_1 ?_
  refine mj_getI (pc := 2) (b := 13) (k := 1) qf_Coast_34 sh_13 cl_0 rfl (by decide) rfl dd_Coast_allTales_2 ?_
  refine mj_ishl (pc := 5) dd_Coast_allTales_5 ?_
  refine mj_iconst (pc := 6) (v := (1 : Int32)) (by decide) dd_Coast_allTales_6 ?_
  refine mj_isub (pc := 7) dd_Coast_allTales_7 ?_
  exact mj_iret dd_Coast_allTales_8 rfl rfl
def F_Arrays_fill_c22_b5 (N : Nat) : Nat → Int32 → Int32 → Int32 → mj_M → Option (mj_M)
  | 0, _, _, _, _ => none
  | n + 1, x1, x2, x3, M =>
    if x3 ≤ x2 then
     (some M)
     else
     (mj_ck x2 36 (mj_lt (mj_u M 22 x2.toNatClampNeg x1) (fun M2 =>
     F_Arrays_fill_c22_b5 N n x1 (x2 + (1 : Int32)) x3 M2)))
set_option maxRecDepth 20000 in
theorem T_Arrays_fill_c22_b5 {g : mj_G} (N : Nat) (e : Nat) (he : 0 ≤ e) : ∀ (n : Nat) (x1 : Int32) (x2 : Int32) (x3 : Int32) (M : mj_M), mj_X g (mj_qV g) "java/util/Arrays" c_Arrays_fill 4 none e 5 [(0, .ref 22), (1, .int x1), (2, .int x2), (3, .int x3)] [] M (F_Arrays_fill_c22_b5 N n x1 x2 x3 M) := by
  intro n
  induction n with
  | zero => intro x1 x2 x3 M; exact mj_none
  | succ n ih =>
    intro x1 x2 x3 M
    rw [F_Arrays_fill_c22_b5]
    refine mj_iload_n (pc := 5) (i := 2) rfl dd_Arrays_fill_5 ?_
    refine mj_iload_n (pc := 6) (i := 3) rfl dd_Arrays_fill_6 ?_
    refine mj_icmp_ge (pc := 7) (tgt := 20) dd_Arrays_fill_7 rfl (fun h1 => ?_) (fun h1 => ?_)
    · exact mj_vret dd_Arrays_fill_20 rfl rfl
    · refine mj_aload_n (pc := 10) (i := 0) rfl dd_Arrays_fill_10 ?_
      refine mj_iload_n (pc := 11) (i := 2) rfl dd_Arrays_fill_11 ?_
      refine mj_iload_n (pc := 12) (i := 1) rfl dd_Arrays_fill_12 ?_
      refine mj_iast (pc := 13) sh_22 dd_Arrays_fill_13 (fun M2 _ => ?_)
      refine mj_iinc (pc := 14) (i := 2) (z := (1 : Int32)) rfl (by decide) (by decide) dd_Arrays_fill_14 ?_
      refine mj_L (L' := [(2, .int (x2 + (1 : Int32))), (0, .ref 22), (1, .int x1), (3, .int x3)]) [0, 1, 2, 3] rfl ?_
      refine mj_goto (pc := 17) (tgt := 5) dd_Arrays_fill_17 rfl ?_
      refine mj_L (L' := [(0, .ref 22), (1, .int x1), (2, .int (x2 + (1 : Int32))), (3, .int x3)]) [1, 2, 0, 3] rfl ?_
      exact ih x1 (x2 + (1 : Int32)) x3 M2
def F_Arrays_fill_c22 (N : Nat) (x1 : Int32) (M : mj_M) : Option (mj_M) :=
    F_Arrays_fill_c22_b5 N N x1 (0 : Int32) (36 : Int32) M
set_option maxRecDepth 20000 in
theorem T_Arrays_fill_c22 {g : mj_G} (N : Nat) : ∀ d, 1 ≤ d → ∀ (x1 : Int32) (M : mj_M), mj_Mt g (mj_qV g) d y_Arrays_fill c_Arrays_fill 4 none [.ref 22, .int x1] M (F_Arrays_fill_c22 N x1 M) := by
  intro d hd x1 M
  obtain ⟨e, rfl⟩ : ∃ e, d = e + 1 := ⟨d - 1, by omega⟩
  have he : 0 ≤ e := by omega
  refine mj_met (by decide +kernel) (Nat.le_of_ble_eq_true rfl) ?_
  unfold F_Arrays_fill_c22
  refine mj_L (L' := [(0, .ref 22), (1, .int x1)]) [0, 1] rfl ?_
  refine mj_iconst (pc := 0) (v := (0 : Int32)) (by decide) dd_Arrays_fill_0 ?_
  refine mj_istore_n (pc := 1) (by decide) dd_Arrays_fill_1 ?_
  refine mj_L (L' := [(2, .int (0 : Int32)), (0, .ref 22), (1, .int x1)]) [0, 1, 2] rfl ?_
  refine mj_aload_n (pc := 2) (i := 0) rfl dd_Arrays_fill_2 ?_
  refine mj_alen (pc := 3) (v := (36 : Int32)) sh_22 (by decide) dd_Arrays_fill_3 ?_
  refine mj_istore_n (pc := 4) (by decide) dd_Arrays_fill_4 ?_
  refine mj_L (L' := [(3, .int (36 : Int32)), (2, .int (0 : Int32)), (0, .ref 22), (1, .int x1)]) [0, 1, 2, 3] rfl ?_
  refine mj_L (L' := [(0, .ref 22), (1, .int x1), (2, .int (0 : Int32)), (3, .int (36 : Int32))]) [2, 3, 1, 0] rfl ?_
  exact T_Arrays_fill_c22_b5 (g := g) N e he N x1 (0 : Int32) (36 : Int32) M
