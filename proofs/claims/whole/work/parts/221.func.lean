/-! ===== functions and their proofs ===== -/
def F_W_highest_c21_b4 (N : Nat) : Nat → Int32 → Int32 → Int32 → mj_M → Option (Int32 × mj_M)
  | 0, _, _, _, _ => none
  | n + 1, x1, x2, x3, M =>
    if x1 ≤ x3 then
     (some (x2, M))
     else
     (if (6 : Int32) ≤ x3 then
     (some (x2, M))
     else
     (mj_ck x3 6 (
     mj_ck x2 6 (
     if (M 21 x3.toNatClampNeg) ≤ (M 21 x2.toNatClampNeg) then
     (F_W_highest_c21_b4 N n x1 x2 (x3 + (1 : Int32)) M)
     else
     (F_W_highest_c21_b4 N n x1 x3 (x3 + (1 : Int32)) M)))))
set_option maxRecDepth 20000 in
theorem T_W_highest_c21_b4 {g : mj_G} (N : Nat) (e : Nat) (he : 0 ≤ e) : ∀ (n : Nat) (x1 : Int32) (x2 : Int32) (x3 : Int32) (M : mj_M), mj_X g (mj_qI g) "WinterTellers" c_W_highest 4 (some .int) e 4 [(0, .ref 21), (1, .int x1), (2, .int x2), (3, .int x3)] [] M (F_W_highest_c21_b4 N n x1 x2 x3 M) := by
  intro n
  induction n with
  | zero => intro x1 x2 x3 M; exact mj_none
  | succ n ih =>
    intro x1 x2 x3 M
    rw [F_W_highest_c21_b4]
    refine mj_iload_n (pc := 4) (i := 3) rfl dd_W_highest_4 ?_
    refine mj_iload_n (pc := 5) (i := 1) rfl dd_W_highest_5 ?_
    refine mj_icmp_ge (pc := 6) (tgt := 32) dd_W_highest_6 rfl (fun h1 => ?_) (fun h1 => ?_)
    · refine mj_iload_n (pc := 32) (i := 2) rfl dd_W_highest_32 ?_
      exact mj_iret dd_W_highest_33 rfl rfl
    · refine mj_iload_n (pc := 9) (i := 3) rfl dd_W_highest_9 ?_
      refine mj_aload_n (pc := 10) (i := 0) rfl dd_W_highest_10 ?_
      refine mj_alen (pc := 11) (v := (6 : Int32)) sh_21 (by decide) dd_W_highest_11 ?_
      refine mj_icmp_ge (pc := 12) (tgt := 32) dd_W_highest_12 rfl (fun h2 => ?_) (fun h2 => ?_)
      · refine mj_iload_n (pc := 32) (i := 2) rfl dd_W_highest_32 ?_
        exact mj_iret dd_W_highest_33 rfl rfl
      · refine mj_aload_n (pc := 15) (i := 0) rfl dd_W_highest_15 ?_
        refine mj_iload_n (pc := 16) (i := 3) rfl dd_W_highest_16 ?_
        refine mj_iald (pc := 17) sh_21 dd_W_highest_17 ?_
        refine mj_aload_n (pc := 18) (i := 0) rfl dd_W_highest_18 ?_
        refine mj_iload_n (pc := 19) (i := 2) rfl dd_W_highest_19 ?_
        refine mj_iald (pc := 20) sh_21 dd_W_highest_20 ?_
        refine mj_icmp_le (pc := 21) (tgt := 26) dd_W_highest_21 rfl (fun h3 => ?_) (fun h3 => ?_)
        · refine mj_iinc (pc := 26) (i := 3) (z := (1 : Int32)) rfl (by decide) (by decide) dd_W_highest_26 ?_
          refine mj_L (L' := [(3, .int (x3 + (1 : Int32))), (0, .ref 21), (1, .int x1), (2, .int x2)]) [0, 1, 2, 3] rfl ?_
          refine mj_goto (pc := 29) (tgt := 4) dd_W_highest_29 rfl ?_
          refine mj_L (L' := [(0, .ref 21), (1, .int x1), (2, .int x2), (3, .int (x3 + (1 : Int32)))]) [1, 2, 3, 0] rfl ?_
          exact ih x1 x2 (x3 + (1 : Int32)) M
        · refine mj_iload_n (pc := 24) (i := 3) rfl dd_W_highest_24 ?_
          refine mj_istore_n (pc := 25) (by decide) dd_W_highest_25 ?_
          refine mj_L (L' := [(2, .int x3), (0, .ref 21), (1, .int x1), (3, .int x3)]) [0, 1, 2, 3] rfl ?_
          refine mj_iinc (pc := 26) (i := 3) (z := (1 : Int32)) rfl (by decide) (by decide) dd_W_highest_26 ?_
          refine mj_L (L' := [(3, .int (x3 + (1 : Int32))), (2, .int x3), (0, .ref 21), (1, .int x1)]) [0, 1, 2, 3] rfl ?_
          refine mj_goto (pc := 29) (tgt := 4) dd_W_highest_29 rfl ?_
          refine mj_L (L' := [(0, .ref 21), (1, .int x1), (2, .int x3), (3, .int (x3 + (1 : Int32)))]) [2, 3, 1, 0] rfl ?_
          exact ih x1 x3 (x3 + (1 : Int32)) M
def F_W_highest_c21 (N : Nat) (x1 : Int32) (M : mj_M) : Option (Int32 × mj_M) :=
    F_W_highest_c21_b4 N N x1 (0 : Int32) (1 : Int32) M
set_option maxRecDepth 20000 in
theorem T_W_highest_c21 {g : mj_G} (N : Nat) : ∀ d, 1 ≤ d → ∀ (x1 : Int32) (M : mj_M), mj_Mt g (mj_qI g) d y_W_highest c_W_highest 4 (some .int) [.ref 21, .int x1] M (F_W_highest_c21 N x1 M) := by
  intro d hd x1 M
  obtain ⟨e, rfl⟩ : ∃ e, d = e + 1 := ⟨d - 1, by omega⟩
  have he : 0 ≤ e := by omega
  refine mj_met (by decide +kernel) (Nat.le_of_ble_eq_true rfl) ?_
  unfold F_W_highest_c21
  refine mj_L (L' := [(0, .ref 21), (1, .int x1)]) [0, 1] rfl ?_
  refine mj_iconst (pc := 0) (v := (0 : Int32)) (by decide) dd_W_highest_0 ?_
  refine mj_istore_n (pc := 1) (by decide) dd_W_highest_1 ?_
  refine mj_L (L' := [(2, .int (0 : Int32)), (0, .ref 21), (1, .int x1)]) [0, 1, 2] rfl ?_
  refine mj_iconst (pc := 2) (v := (1 : Int32)) (by decide) dd_W_highest_2 ?_
  refine mj_istore_n (pc := 3) (by decide) dd_W_highest_3 ?_
  refine mj_L (L' := [(3, .int (1 : Int32)), (2, .int (0 : Int32)), (0, .ref 21), (1, .int x1)]) [0, 1, 2, 3] rfl ?_
  refine mj_L (L' := [(0, .ref 21), (1, .int x1), (2, .int (0 : Int32)), (3, .int (1 : Int32))]) [2, 3, 1, 0] rfl ?_
  exact T_W_highest_c21_b4 (g := g) N e he N x1 (0 : Int32) (1 : Int32) M
def F_W_highest_c15_b4 (N : Nat) : Nat → Int32 → Int32 → Int32 → mj_M → Option (Int32 × mj_M)
  | 0, _, _, _, _ => none
  | n + 1, x1, x2, x3, M =>
    if x1 ≤ x3 then
     (some (x2, M))
     else
     (if (6 : Int32) ≤ x3 then
     (some (x2, M))
     else
     (mj_ck x3 6 (
     mj_ck x2 6 (
     if (M 15 x3.toNatClampNeg) ≤ (M 15 x2.toNatClampNeg) then
     (F_W_highest_c15_b4 N n x1 x2 (x3 + (1 : Int32)) M)
     else
     (F_W_highest_c15_b4 N n x1 x3 (x3 + (1 : Int32)) M)))))
set_option maxRecDepth 20000 in
theorem T_W_highest_c15_b4 {g : mj_G} (N : Nat) (e : Nat) (he : 0 ≤ e) : ∀ (n : Nat) (x1 : Int32) (x2 : Int32) (x3 : Int32) (M : mj_M), mj_X g (mj_qI g) "WinterTellers" c_W_highest 4 (some .int) e 4 [(0, .ref 15), (1, .int x1), (2, .int x2), (3, .int x3)] [] M (F_W_highest_c15_b4 N n x1 x2 x3 M) := by
  intro n
  induction n with
  | zero => intro x1 x2 x3 M; exact mj_none
  | succ n ih =>
    intro x1 x2 x3 M
    rw [F_W_highest_c15_b4]
    refine mj_iload_n (pc := 4) (i := 3) rfl dd_W_highest_4 ?_
    refine mj_iload_n (pc := 5) (i := 1) rfl dd_W_highest_5 ?_
    refine mj_icmp_ge (pc := 6) (tgt := 32) dd_W_highest_6 rfl (fun h1 => ?_) (fun h1 => ?_)
    · refine mj_iload_n (pc := 32) (i := 2) rfl dd_W_highest_32 ?_
      exact mj_iret dd_W_highest_33 rfl rfl
    · refine mj_iload_n (pc := 9) (i := 3) rfl dd_W_highest_9 ?_
      refine mj_aload_n (pc := 10) (i := 0) rfl dd_W_highest_10 ?_
      refine mj_alen (pc := 11) (v := (6 : Int32)) sh_15 (by decide) dd_W_highest_11 ?_
      refine mj_icmp_ge (pc := 12) (tgt := 32) dd_W_highest_12 rfl (fun h2 => ?_) (fun h2 => ?_)
      · refine mj_iload_n (pc := 32) (i := 2) rfl dd_W_highest_32 ?_
        exact mj_iret dd_W_highest_33 rfl rfl
      · refine mj_aload_n (pc := 15) (i := 0) rfl dd_W_highest_15 ?_
        refine mj_iload_n (pc := 16) (i := 3) rfl dd_W_highest_16 ?_
        refine mj_iald (pc := 17) sh_15 dd_W_highest_17 ?_
        refine mj_aload_n (pc := 18) (i := 0) rfl dd_W_highest_18 ?_
        refine mj_iload_n (pc := 19) (i := 2) rfl dd_W_highest_19 ?_
        refine mj_iald (pc := 20) sh_15 dd_W_highest_20 ?_
        refine mj_icmp_le (pc := 21) (tgt := 26) dd_W_highest_21 rfl (fun h3 => ?_) (fun h3 => ?_)
        · refine mj_iinc (pc := 26) (i := 3) (z := (1 : Int32)) rfl (by decide) (by decide) dd_W_highest_26 ?_
          refine mj_L (L' := [(3, .int (x3 + (1 : Int32))), (0, .ref 15), (1, .int x1), (2, .int x2)]) [0, 1, 2, 3] rfl ?_
          refine mj_goto (pc := 29) (tgt := 4) dd_W_highest_29 rfl ?_
          refine mj_L (L' := [(0, .ref 15), (1, .int x1), (2, .int x2), (3, .int (x3 + (1 : Int32)))]) [1, 2, 3, 0] rfl ?_
          exact ih x1 x2 (x3 + (1 : Int32)) M
        · refine mj_iload_n (pc := 24) (i := 3) rfl dd_W_highest_24 ?_
          refine mj_istore_n (pc := 25) (by decide) dd_W_highest_25 ?_
          refine mj_L (L' := [(2, .int x3), (0, .ref 15), (1, .int x1), (3, .int x3)]) [0, 1, 2, 3] rfl ?_
          refine mj_iinc (pc := 26) (i := 3) (z := (1 : Int32)) rfl (by decide) (by decide) dd_W_highest_26 ?_
          refine mj_L (L' := [(3, .int (x3 + (1 : Int32))), (2, .int x3), (0, .ref 15), (1, .int x1)]) [0, 1, 2, 3] rfl ?_
          refine mj_goto (pc := 29) (tgt := 4) dd_W_highest_29 rfl ?_
          refine mj_L (L' := [(0, .ref 15), (1, .int x1), (2, .int x3), (3, .int (x3 + (1 : Int32)))]) [2, 3, 1, 0] rfl ?_
          exact ih x1 x3 (x3 + (1 : Int32)) M
def F_W_highest_c15 (N : Nat) (x1 : Int32) (M : mj_M) : Option (Int32 × mj_M) :=
    F_W_highest_c15_b4 N N x1 (0 : Int32) (1 : Int32) M
set_option maxRecDepth 20000 in
theorem T_W_highest_c15 {g : mj_G} (N : Nat) : ∀ d, 1 ≤ d → ∀ (x1 : Int32) (M : mj_M), mj_Mt g (mj_qI g) d y_W_highest c_W_highest 4 (some .int) [.ref 15, .int x1] M (F_W_highest_c15 N x1 M) := by
  intro d hd x1 M
  obtain ⟨e, rfl⟩ : ∃ e, d = e + 1 := ⟨d - 1, by omega⟩
  have he : 0 ≤ e := by omega
  refine mj_met (by decide +kernel) (Nat.le_of_ble_eq_true rfl) ?_
  unfold F_W_highest_c15
  refine mj_L (L' := [(0, .ref 15), (1, .int x1)]) [0, 1] rfl ?_
  refine mj_iconst (pc := 0) (v := (0 : Int32)) (by decide) dd_W_highest_0 ?_
  refine mj_istore_n (pc := 1) (by decide) dd_W_highest_1 ?_
  refine mj_L (L' := [(2, .int (0 : Int32)), (0, .ref 15), (1, .int x1)]) [0, 1, 2] rfl ?_
  refine mj_iconst (pc := 2) (v := (1 : Int32)) (by decide) dd_W_highest_2 ?_
  refine mj_istore_n (pc := 3) (by decide) dd_W_highest_3 ?_
  refine mj_L (L' := [(3, .int (1 : Int32)), (2, .int (0 : Int32)), (0, .ref 15), (1, .int x1)]) [0, 1, 2, 3] rfl ?_
  refine mj_L (L' := [(0, .ref 15), (1, .int x1), (2, .int (0 : Int32)), (3, .int (1 : Int32))]) [2, 3, 1, 0] rfl ?_
  exact T_W_highest_c15_b4 (g := g) N e he N x1 (0 : Int32) (1 : Int32) M
def F_W_highest_c16_b4 (N : Nat) : Nat → Int32 → Int32 → Int32 → mj_M → Option (Int32 × mj_M)
  | 0, _, _, _, _ => none
  | n + 1, x1, x2, x3, M =>
    if x1 ≤ x3 then
     (some (x2, M))
     else
     (if (6 : Int32) ≤ x3 then
     (some (x2, M))
     else
     (mj_ck x3 6 (
     mj_ck x2 6 (
     if (M 16 x3.toNatClampNeg) ≤ (M 16 x2.toNatClampNeg) then
     (F_W_highest_c16_b4 N n x1 x2 (x3 + (1 : Int32)) M)
     else
     (F_W_highest_c16_b4 N n x1 x3 (x3 + (1 : Int32)) M)))))
set_option maxRecDepth 20000 in
theorem T_W_highest_c16_b4 {g : mj_G} (N : Nat) (e : Nat) (he : 0 ≤ e) : ∀ (n : Nat) (x1 : Int32) (x2 : Int32) (x3 : Int32) (M : mj_M), mj_X g (mj_qI g) "WinterTellers" c_W_highest 4 (some .int) e 4 [(0, .ref 16), (1, .int x1), (2, .int x2), (3, .int x3)] [] M (F_W_highest_c16_b4 N n x1 x2 x3 M) := by
  intro n
  induction n with
  | zero => intro x1 x2 x3 M; exact mj_none
  | succ n ih =>
    intro x1 x2 x3 M
    rw [F_W_highest_c16_b4]
    refine mj_iload_n (pc := 4) (i := 3) rfl dd_W_highest_4 ?_
    refine mj_iload_n (pc := 5) (i := 1) rfl dd_W_highest_5 ?_
    refine mj_icmp_ge (pc := 6) (tgt := 32) dd_W_highest_6 rfl (fun h1 => ?_) (fun h1 => ?_)
    · refine mj_iload_n (pc := 32) (i := 2) rfl dd_W_highest_32 ?_
      exact mj_iret dd_W_highest_33 rfl rfl
    · refine mj_iload_n (pc := 9) (i := 3) rfl dd_W_highest_9 ?_
      refine mj_aload_n (pc := 10) (i := 0) rfl dd_W_highest_10 ?_
      refine mj_alen (pc := 11) (v := (6 : Int32)) sh_16 (by decide) dd_W_highest_11 ?_
      refine mj_icmp_ge (pc := 12) (tgt := 32) dd_W_highest_12 rfl (fun h2 => ?_) (fun h2 => ?_)
      · refine mj_iload_n (pc := 32) (i := 2) rfl dd_W_highest_32 ?_
        exact mj_iret dd_W_highest_33 rfl rfl
      · refine mj_aload_n (pc := 15) (i := 0) rfl dd_W_highest_15 ?_
        refine mj_iload_n (pc := 16) (i := 3) rfl dd_W_highest_16 ?_
        refine mj_iald (pc := 17) sh_16 dd_W_highest_17 ?_
        refine mj_aload_n (pc := 18) (i := 0) rfl dd_W_highest_18 ?_
        refine mj_iload_n (pc := 19) (i := 2) rfl dd_W_highest_19 ?_
        refine mj_iald (pc := 20) sh_16 dd_W_highest_20 ?_
        refine mj_icmp_le (pc := 21) (tgt := 26) dd_W_highest_21 rfl (fun h3 => ?_) (fun h3 => ?_)
        · refine mj_iinc (pc := 26) (i := 3) (z := (1 : Int32)) rfl (by decide) (by decide) dd_W_highest_26 ?_
          refine mj_L (L' := [(3, .int (x3 + (1 : Int32))), (0, .ref 16), (1, .int x1), (2, .int x2)]) [0, 1, 2, 3] rfl ?_
          refine mj_goto (pc := 29) (tgt := 4) dd_W_highest_29 rfl ?_
          refine mj_L (L' := [(0, .ref 16), (1, .int x1), (2, .int x2), (3, .int (x3 + (1 : Int32)))]) [1, 2, 3, 0] rfl ?_
          exact ih x1 x2 (x3 + (1 : Int32)) M
        · refine mj_iload_n (pc := 24) (i := 3) rfl dd_W_highest_24 ?_
          refine mj_istore_n (pc := 25) (by decide) dd_W_highest_25 ?_
          refine mj_L (L' := [(2, .int x3), (0, .ref 16), (1, .int x1), (3, .int x3)]) [0, 1, 2, 3] rfl ?_
          refine mj_iinc (pc := 26) (i := 3) (z := (1 : Int32)) rfl (by decide) (by decide) dd_W_highest_26 ?_
          refine mj_L (L' := [(3, .int (x3 + (1 : Int32))), (2, .int x3), (0, .ref 16), (1, .int x1)]) [0, 1, 2, 3] rfl ?_
          refine mj_goto (pc := 29) (tgt := 4) dd_W_highest_29 rfl ?_
          refine mj_L (L' := [(0, .ref 16), (1, .int x1), (2, .int x3), (3, .int (x3 + (1 : Int32)))]) [2, 3, 1, 0] rfl ?_
          exact ih x1 x3 (x3 + (1 : Int32)) M
def F_W_highest_c16 (N : Nat) (x1 : Int32) (M : mj_M) : Option (Int32 × mj_M) :=
    F_W_highest_c16_b4 N N x1 (0 : Int32) (1 : Int32) M
set_option maxRecDepth 20000 in
theorem T_W_highest_c16 {g : mj_G} (N : Nat) : ∀ d, 1 ≤ d → ∀ (x1 : Int32) (M : mj_M), mj_Mt g (mj_qI g) d y_W_highest c_W_highest 4 (some .int) [.ref 16, .int x1] M (F_W_highest_c16 N x1 M) := by
  intro d hd x1 M
  obtain ⟨e, rfl⟩ : ∃ e, d = e + 1 := ⟨d - 1, by omega⟩
  have he : 0 ≤ e := by omega
  refine mj_met (by decide +kernel) (Nat.le_of_ble_eq_true rfl) ?_
  unfold F_W_highest_c16
  refine mj_L (L' := [(0, .ref 16), (1, .int x1)]) [0, 1] rfl ?_
  refine mj_iconst (pc := 0) (v := (0 : Int32)) (by decide) dd_W_highest_0 ?_
  refine mj_istore_n (pc := 1) (by decide) dd_W_highest_1 ?_
  refine mj_L (L' := [(2, .int (0 : Int32)), (0, .ref 16), (1, .int x1)]) [0, 1, 2] rfl ?_
  refine mj_iconst (pc := 2) (v := (1 : Int32)) (by decide) dd_W_highest_2 ?_
  refine mj_istore_n (pc := 3) (by decide) dd_W_highest_3 ?_
  refine mj_L (L' := [(3, .int (1 : Int32)), (2, .int (0 : Int32)), (0, .ref 16), (1, .int x1)]) [0, 1, 2, 3] rfl ?_
  refine mj_L (L' := [(0, .ref 16), (1, .int x1), (2, .int (0 : Int32)), (3, .int (1 : Int32))]) [2, 3, 1, 0] rfl ?_
  exact T_W_highest_c16_b4 (g := g) N e he N x1 (0 : Int32) (1 : Int32) M
def F_Plans_nightsIn_b4 (N : Nat) : Nat → Int32 → Int32 → Int32 → mj_M → Option (Int32 × mj_M)
  | 0, _, _, _, _ => none
  | n + 1, x1, x2, x3, M =>
    if (M 13 1) ≤ x3 then
     (some (x2, M))
     else
     ((F_Stand_owns x3 M).bind (fun q2 =>
     if q2.1 = (0) then
     (F_Plans_nightsIn_b4 N n x1 x2 (x3 + (1 : Int32)) q2.2)
     else
     ((F_Stays_now N x1 x3 q2.2).bind (fun q4 =>
     mj_lt (x2 + q4.1) (fun v5 =>
     F_Plans_nightsIn_b4 N n x1 v5 (x3 + (1 : Int32)) q4.2)))))
set_option maxRecDepth 20000 in
theorem T_Plans_nightsIn_b4 {g : mj_G} (N : Nat) (e : Nat) (he : 5 ≤ e) : ∀ (n : Nat) (x1 : Int32) (x2 : Int32) (x3 : Int32) (M : mj_M), mj_X g (mj_qI g) "WinterTellers$Plans" c_Plans_nightsIn 4 (some .int) e 4 [(0, .ref 33), (1, .int x1), (2, .int x2), (3, .int x3)] [] M (F_Plans_nightsIn_b4 N n x1 x2 x3 M) := by
  intro n
  induction n with
  | zero => intro x1 x2 x3 M; exact mj_none
  | succ n ih =>
    intro x1 x2 x3 M
    rw [F_Plans_nightsIn_b4]
    refine mj_iload_n (pc := 4) (i := 3) rfl dd_Plans_nightsIn_4 ?_
    refine mj_aload_n (pc := 5) (i := 0) rfl dd_Plans_nightsIn_5 ?_
    refine mj_getR (pc := 6) (b := 33) (k := 7) qf_Plans_24 sh_33 cl_7 rfl (by decide) (r := 13) rfl dd_Plans_nightsIn_6 ?_
    refine mj_getI (pc := 9) (b := 13) (k := 1) qf_Plans_43 sh_13 cl_0 rfl (by decide) rfl dd_Plans_nightsIn_9 ?_
    refine mj_icmp_ge (pc := 12) (tgt := 44) dd_Plans_nightsIn_12 rfl (fun h1 => ?_) (fun h1 => ?_)
    · refine mj_iload_n (pc := 44) (i := 2) rfl dd_Plans_nightsIn_44 ?_
      exact mj_iret dd_Plans_nightsIn_45 rfl rfl
    · refine mj_aload_n (pc := 15) (i := 0) rfl dd_Plans_nightsIn_15 ?_
      refine mj_getR (pc := 16) (b := 33) (k := 8) qf_Plans_28 sh_33 cl_7 rfl (by decide) (r := 20) rfl dd_Plans_nightsIn_16 ?_
      refine mj_iload_n (pc := 19) (i := 3) rfl dd_Plans_nightsIn_19 ?_
      refine mj_callVI (pc := 20) (idx := 48) (b := 20) (As := [.int x3]) (st := []) sh_20 cl_8 ev_Stand_owns ql_Plans_48 rfl (Nat.le_of_ble_eq_true rfl) (T_Stand_owns (g := g) e (by omega) x3 M) dd_Plans_nightsIn_20 (fun q2 hq2 => ?_)
      refine mj_if_eq (pc := 23) (tgt := 38) dd_Plans_nightsIn_23 rfl (fun h3 => ?_) (fun h3 => ?_)
      · refine mj_iinc (pc := 38) (i := 3) (z := (1 : Int32)) rfl (by decide) (by decide) dd_Plans_nightsIn_38 ?_
        refine mj_L (L' := [(3, .int (x3 + (1 : Int32))), (0, .ref 33), (1, .int x1), (2, .int x2)]) [0, 1, 2, 3] rfl ?_
        refine mj_goto (pc := 41) (tgt := 4) dd_Plans_nightsIn_41 rfl ?_
        refine mj_L (L' := [(0, .ref 33), (1, .int x1), (2, .int x2), (3, .int (x3 + (1 : Int32)))]) [1, 2, 3, 0] rfl ?_
        exact ih x1 x2 (x3 + (1 : Int32)) q2.2
      · refine mj_iload_n (pc := 26) (i := 2) rfl dd_Plans_nightsIn_26 ?_
        refine mj_aload_n (pc := 27) (i := 0) rfl dd_Plans_nightsIn_27 ?_
        refine mj_getR (pc := 28) (b := 33) (k := 9) qf_Plans_32 sh_33 cl_7 rfl (by decide) (r := 28) rfl dd_Plans_nightsIn_28 ?_
        refine mj_iload_n (pc := 31) (i := 1) rfl dd_Plans_nightsIn_31 ?_
        refine mj_iload_n (pc := 32) (i := 3) rfl dd_Plans_nightsIn_32 ?_
        refine mj_callVI (pc := 33) (idx := 66) (b := 28) (As := [.int x1, .int x3]) (st := [.int x2]) sh_28 cl_9 ev_Stays_now ql_Plans_66 rfl (Nat.le_of_ble_eq_true rfl) (T_Stays_now (g := g) N e (by omega) x1 x3 q2.2) dd_Plans_nightsIn_33 (fun q4 hq4 => ?_)
        refine mj_iadd (pc := 36) dd_Plans_nightsIn_36 ?_
        refine mj_istore_nL (pc := 37) (by decide) dd_Plans_nightsIn_37 (fun v5 _ => ?_)
        refine mj_L (L' := [(2, .int v5), (0, .ref 33), (1, .int x1), (3, .int x3)]) [0, 1, 2, 3] rfl ?_
        refine mj_iinc (pc := 38) (i := 3) (z := (1 : Int32)) rfl (by decide) (by decide) dd_Plans_nightsIn_38 ?_
        refine mj_L (L' := [(3, .int (x3 + (1 : Int32))), (2, .int v5), (0, .ref 33), (1, .int x1)]) [0, 1, 2, 3] rfl ?_
        refine mj_goto (pc := 41) (tgt := 4) dd_Plans_nightsIn_41 rfl ?_
        refine mj_L (L' := [(0, .ref 33), (1, .int x1), (2, .int v5), (3, .int (x3 + (1 : Int32)))]) [2, 3, 1, 0] rfl ?_
        exact ih x1 v5 (x3 + (1 : Int32)) q4.2
def F_Plans_nightsIn (N : Nat) (x1 : Int32) (M : mj_M) : Option (Int32 × mj_M) :=
    F_Plans_nightsIn_b4 N N x1 (0 : Int32) (0 : Int32) M
set_option maxRecDepth 20000 in
theorem T_Plans_nightsIn {g : mj_G} (N : Nat) : ∀ d, 6 ≤ d → ∀ (x1 : Int32) (M : mj_M), mj_Mt g (mj_qI g) d y_Plans_nightsIn c_Plans_nightsIn 4 (some .int) [.ref 33, .int x1] M (F_Plans_nightsIn N x1 M) := by
  intro d hd x1 M
  obtain ⟨e, rfl⟩ : ∃ e, d = e + 1 := ⟨d - 1, by omega⟩
  have he : 5 ≤ e := by omega
  refine mj_met (by decide +kernel) (Nat.le_of_ble_eq_true rfl) ?_
  unfold F_Plans_nightsIn
  refine mj_L (L' := [(0, .ref 33), (1, .int x1)]) [0, 1] rfl ?_
  refine mj_iconst (pc := 0) (v := (0 : Int32)) (by decide) dd_Plans_nightsIn_0 ?_
  refine mj_istore_n (pc := 1) (by decide) dd_Plans_nightsIn_1 ?_
  refine mj_L (L' := [(2, .int (0 : Int32)), (0, .ref 33), (1, .int x1)]) [0, 1, 2] rfl ?_
  refine mj_iconst (pc := 2) (v := (0 : Int32)) (by decide) dd_Plans_nightsIn_2 ?_
  refine mj_istore_n (pc := 3) (by decide) dd_Plans_nightsIn_3 ?_
  refine mj_L (L' := [(3, .int (0 : Int32)), (2, .int (0 : Int32)), (0, .ref 33), (1, .int x1)]) [0, 1, 2, 3] rfl ?_
  refine mj_L (L' := [(0, .ref 33), (1, .int x1), (2, .int (0 : Int32)), (3, .int (0 : Int32))]) [2, 3, 1, 0] rfl ?_
  exact T_Plans_nightsIn_b4 (g := g) N e he N x1 (0 : Int32) (0 : Int32) M
def F_Plans_dullest_b10 (N : Nat) : Nat → Int32 → Int32 → Int32 → mj_M → Option (Int32 × mj_M)
  | 0, _, _, _, _ => none
  | n + 1, x1, x2, x3, M =>
    if (M 13 0) ≤ x3 then
     (some (x1, M))
     else
     ((F_Plans_nightsIn N x3 M).bind (fun q3 =>
     if x2 ≤ q3.1 then
     (F_Plans_dullest_b10 N n x1 x2 (x3 + (1 : Int32)) q3.2)
     else
     (F_Plans_dullest_b10 N n x3 q3.1 (x3 + (1 : Int32)) q3.2)))
set_option maxRecDepth 20000 in
theorem T_Plans_dullest_b10 {g : mj_G} (N : Nat) (e : Nat) (he : 6 ≤ e) : ∀ (n : Nat) (x1 : Int32) (x2 : Int32) (x3 : Int32) (M : mj_M), mj_X g (mj_qI g) "WinterTellers$Plans" c_Plans_dullest 5 (some .int) e 10 [(0, .ref 33), (1, .int x1), (2, .int x2), (3, .int x3)] [] M (F_Plans_dullest_b10 N n x1 x2 x3 M) := by
  intro n
  induction n with
  | zero => intro x1 x2 x3 M; exact mj_none
  | succ n ih =>
    intro x1 x2 x3 M
    rw [F_Plans_dullest_b10]
    refine mj_iload_n (pc := 10) (i := 3) rfl dd_Plans_dullest_10 ?_
    refine mj_aload_n (pc := 11) (i := 0) rfl dd_Plans_dullest_11 ?_
    refine mj_getR (pc := 12) (b := 33) (k := 7) qf_Plans_24 sh_33 cl_7 rfl (by decide) (r := 13) rfl dd_Plans_dullest_12 ?_
    refine mj_getI (pc := 15) (b := 13) (k := 0) qf_Plans_63 sh_13 cl_0 rfl (by decide) rfl dd_Plans_dullest_15 ?_
    refine mj_icmp_ge (pc := 18) (tgt := 45) dd_Plans_dullest_18 rfl (fun h2 => ?_) (fun h2 => ?_)
    · refine mj_iload_n (pc := 45) (i := 1) rfl dd_Plans_dullest_45 ?_
      exact mj_iret dd_Plans_dullest_46 rfl rfl
    · refine mj_aload_n (pc := 21) (i := 0) rfl dd_Plans_dullest_21 ?_
      refine mj_iload_n (pc := 22) (i := 3) rfl dd_Plans_dullest_22 ?_
      refine mj_callVI (pc := 23) (idx := 138) (b := 33) (As := [.int x3]) (st := []) sh_33 cl_7 ev_Plans_nightsIn ql_Plans_138 rfl (Nat.le_of_ble_eq_true rfl) (T_Plans_nightsIn (g := g) N e (by omega) x3 M) dd_Plans_dullest_23 (fun q3 hq3 => ?_)
      refine mj_istore (pc := 26) (by decide) dd_Plans_dullest_26 ?_
      refine mj_L (L' := [(4, .int q3.1), (0, .ref 33), (1, .int x1), (2, .int x2), (3, .int x3)]) [0, 1, 2, 3, 4] rfl ?_
      refine mj_iload (pc := 28) (i := 4) rfl dd_Plans_dullest_28 ?_
      refine mj_iload_n (pc := 30) (i := 2) rfl dd_Plans_dullest_30 ?_
      refine mj_icmp_ge (pc := 31) (tgt := 39) dd_Plans_dullest_31 rfl (fun h4 => ?_) (fun h4 => ?_)
      · refine mj_iinc (pc := 39) (i := 3) (z := (1 : Int32)) rfl (by decide) (by decide) dd_Plans_dullest_39 ?_
        refine mj_L (L' := [(3, .int (x3 + (1 : Int32))), (0, .ref 33), (1, .int x1), (2, .int x2)]) [0, 2, 3, 4] rfl ?_
        refine mj_goto (pc := 42) (tgt := 10) dd_Plans_dullest_42 rfl ?_
        refine mj_L (L' := [(0, .ref 33), (1, .int x1), (2, .int x2), (3, .int (x3 + (1 : Int32)))]) [1, 2, 3, 0] rfl ?_
        exact ih x1 x2 (x3 + (1 : Int32)) q3.2
      · refine mj_iload (pc := 34) (i := 4) rfl dd_Plans_dullest_34 ?_
        refine mj_istore_n (pc := 36) (by decide) dd_Plans_dullest_36 ?_
        refine mj_L (L' := [(2, .int q3.1), (0, .ref 33), (3, .int x3)]) [0, 2, 4] rfl ?_
        refine mj_iload_n (pc := 37) (i := 3) rfl dd_Plans_dullest_37 ?_
        refine mj_istore_n (pc := 38) (by decide) dd_Plans_dullest_38 ?_
        refine mj_L (L' := [(1, .int x3), (2, .int q3.1), (0, .ref 33), (3, .int x3)]) [0, 1, 2, 3] rfl ?_
        refine mj_iinc (pc := 39) (i := 3) (z := (1 : Int32)) rfl (by decide) (by decide) dd_Plans_dullest_39 ?_
        refine mj_L (L' := [(3, .int (x3 + (1 : Int32))), (1, .int x3), (2, .int q3.1), (0, .ref 33)]) [0, 1, 2, 3] rfl ?_
        refine mj_goto (pc := 42) (tgt := 10) dd_Plans_dullest_42 rfl ?_
        refine mj_L (L' := [(0, .ref 33), (1, .int x3), (2, .int q3.1), (3, .int (x3 + (1 : Int32)))]) [3, 1, 2, 0] rfl ?_
        exact ih x3 q3.1 (x3 + (1 : Int32)) q3.2
def F_Plans_dullest (N : Nat) (M : mj_M) : Option (Int32 × mj_M) :=
    (F_Plans_nightsIn N (0 : Int32) M).bind (fun q1 =>
     F_Plans_dullest_b10 N N (0 : Int32) q1.1 (1 : Int32) q1.2)
set_option maxRecDepth 20000 in
theorem T_Plans_dullest {g : mj_G} (N : Nat) : ∀ d, 7 ≤ d → ∀ (M : mj_M), mj_Mt g (mj_qI g) d y_Plans_dullest c_Plans_dullest 5 (some .int) [.ref 33] M (F_Plans_dullest N M) := by
  intro d hd M
  obtain ⟨e, rfl⟩ : ∃ e, d = e + 1 := ⟨d - 1, by omega⟩
  have he : 6 ≤ e := by omega
  refine mj_met (by decide +kernel) (Nat.le_of_ble_eq_true rfl) ?_
  unfold F_Plans_dullest
  refine mj_L (L' := [(0, .ref 33)]) [0] rfl ?_
  refine mj_iconst (pc := 0) (v := (0 : Int32)) (by decide) dd_Plans_dullest_0 ?_
  refine mj_istore_n (pc := 1) (by decide) dd_Plans_dullest_1 ?_
  refine mj_L (L' := [(1, .int (0 : Int32)), (0, .ref 33)]) [0, 1] rfl ?_
  refine mj_aload_n (pc := 2) (i := 0) rfl dd_Plans_dullest_2 ?_
  refine mj_iconst (pc := 3) (v := (0 : Int32)) (by decide) dd_Plans_dullest_3 ?_
  refine mj_callVI (pc := 4) (idx := 138) (b := 33) (As := [.int (0 : Int32)]) (st := []) sh_33 cl_7 ev_Plans_nightsIn ql_Plans_138 rfl (Nat.le_of_ble_eq_true rfl) (T_Plans_nightsIn (g := g) N e (by omega) (0 : Int32) M) dd_Plans_dullest_4 (fun q1 hq1 => ?_)
  refine mj_istore_n (pc := 7) (by decide) dd_Plans_dullest_7 ?_
  refine mj_L (L' := [(2, .int q1.1), (1, .int (0 : Int32)), (0, .ref 33)]) [0, 1, 2] rfl ?_
  refine mj_iconst (pc := 8) (v := (1 : Int32)) (by decide) dd_Plans_dullest_8 ?_
  refine mj_istore_n (pc := 9) (by decide) dd_Plans_dullest_9 ?_
  refine mj_L (L' := [(3, .int (1 : Int32)), (2, .int q1.1), (1, .int (0 : Int32)), (0, .ref 33)]) [0, 1, 2, 3] rfl ?_
  refine mj_L (L' := [(0, .ref 33), (1, .int (0 : Int32)), (2, .int q1.1), (3, .int (1 : Int32))]) [3, 2, 1, 0] rfl ?_
  exact T_Plans_dullest_b10 (g := g) N e he N (0 : Int32) q1.1 (1 : Int32) q1.2
def F_Coast_trueBits_b4 (N : Nat) : Nat → Int32 → Int32 → mj_M → Option (Int32 × mj_M)
  | 0, _, _, _ => none
  | n + 1, x1, x2, M =>
    if (M 13 1) ≤ x2 then
     (some (x1, M))
     else
     (mj_ck x2 6 (
     mj_lt (x1 ||| ((M 19 x2.toNatClampNeg) <<< (x2 &&& 31))) (fun v2 =>
     F_Coast_trueBits_b4 N n v2 (x2 + (1 : Int32)) M)))
set_option maxRecDepth 20000 in
theorem T_Coast_trueBits_b4 {g : mj_G} (N : Nat) (e : Nat) (he : 0 ≤ e) : ∀ (n : Nat) (x1 : Int32) (x2 : Int32) (M : mj_M), mj_X g (mj_qI g) "WinterTellers$Coast" c_Coast_trueBits 3 (some .int) e 4 [(0, .ref 13), (1, .int x1), (2, .int x2)] [] M (F_Coast_trueBits_b4 N n x1 x2 M) := by
  intro n
  induction n with
  | zero => intro x1 x2 M; exact mj_none
  | succ n ih =>
    intro x1 x2 M
    rw [F_Coast_trueBits_b4]
    refine mj_iload_n (pc := 4) (i := 2) rfl dd_Coast_trueBits_4 ?_
    refine mj_aload_n (pc := 5) (i := 0) rfl dd_Coast_trueBits_5 ?_
    refine mj_getI (pc := 6) (b := 13) (k := 1) qf_Coast_34 sh_13 cl_0 rfl (by decide) rfl dd_Coast_trueBits_6 ?_
    refine mj_icmp_ge (pc := 9) (tgt := 29) dd_Coast_trueBits_9 rfl (fun h1 => ?_) (fun h1 => ?_)
    · refine mj_iload_n (pc := 29) (i := 1) rfl dd_Coast_trueBits_29 ?_
      exact mj_iret dd_Coast_trueBits_30 rfl rfl
    · refine mj_iload_n (pc := 12) (i := 1) rfl dd_Coast_trueBits_12 ?_
      refine mj_aload_n (pc := 13) (i := 0) rfl dd_Coast_trueBits_13 ?_
      refine mj_getR (pc := 14) (b := 13) (k := 11) qf_Coast_27 sh_13 cl_0 rfl (by decide) (r := 19) rfl dd_Coast_trueBits_14 ?_
      refine mj_iload_n (pc := 17) (i := 2) rfl dd_Coast_trueBits_17 ?_
      refine mj_iald (pc := 18) sh_19 dd_Coast_trueBits_18 ?_
      refine mj_iload_n (pc := 19) (i := 2) rfl dd_Coast_trueBits_19 ?_
      refine mj_ishl (pc := 20) dd_Coast_trueBits_20 ?_
      refine mj_ior (pc := 21) dd_Coast_trueBits_21 ?_
      refine mj_istore_nL (pc := 22) (by decide) dd_Coast_trueBits_22 (fun v2 _ => ?_)
      refine mj_L (L' := [(1, .int v2), (0, .ref 13), (2, .int x2)]) [0, 1, 2] rfl ?_
      refine mj_iinc (pc := 23) (i := 2) (z := (1 : Int32)) rfl (by decide) (by decide) dd_Coast_trueBits_23 ?_
      refine mj_L (L' := [(2, .int (x2 + (1 : Int32))), (1, .int v2), (0, .ref 13)]) [0, 1, 2] rfl ?_
      refine mj_goto (pc := 26) (tgt := 4) dd_Coast_trueBits_26 rfl ?_
      refine mj_L (L' := [(0, .ref 13), (1, .int v2), (2, .int (x2 + (1 : Int32)))]) [2, 1, 0] rfl ?_
      exact ih v2 (x2 + (1 : Int32)) M
def F_Coast_trueBits (N : Nat) (M : mj_M) : Option (Int32 × mj_M) :=
    F_Coast_trueBits_b4 N N (0 : Int32) (0 : Int32) M
set_option maxRecDepth 20000 in
theorem T_Coast_trueBits {g : mj_G} (N : Nat) : ∀ d, 1 ≤ d → ∀ (M : mj_M), mj_Mt g (mj_qI g) d y_Coast_trueBits c_Coast_trueBits 3 (some .int) [.ref 13] M (F_Coast_trueBits N M) := by
  intro d hd M
  obtain ⟨e, rfl⟩ : ∃ e, d = e + 1 := ⟨d - 1, by omega⟩
  have he : 0 ≤ e := by omega
  refine mj_met (by decide +kernel) (Nat.le_of_ble_eq_true rfl) ?_
  unfold F_Coast_trueBits
  refine mj_L (L' := [(0, .ref 13)]) [0] rfl ?_
  refine mj_iconst (pc := 0) (v := (0 : Int32)) (by decide) dd_Coast_trueBits_0 ?_
  refine mj_istore_n (pc := 1) (by decide) dd_Coast_trueBits_1 ?_
  refine mj_L (L' := [(1, .int (0 : Int32)), (0, .ref 13)]) [0, 1] rfl ?_
  refine mj_iconst (pc := 2) (v := (0 : Int32)) (by decide) dd_Coast_trueBits_2 ?_
  refine mj_istore_n (pc := 3) (by decide) dd_Coast_trueBits_3 ?_
  refine mj_L (L' := [(2, .int (0 : Int32)), (1, .int (0 : Int32)), (0, .ref 13)]) [0, 1, 2] rfl ?_
  refine mj_L (L' := [(0, .ref 13), (1, .int (0 : Int32)), (2, .int (0 : Int32))]) [2, 1, 0] rfl ?_
  exact T_Coast_trueBits_b4 (g := g) N e he N (0 : Int32) (0 : Int32) M
def F_W_commonBits_b10 (N : Nat) : Nat → Int32 → Int32 → mj_M → Option (Int32 × mj_M)
  | 0, _, _, _ => none
  | n + 1, x1, x2, M =>
    if (M 13 0) ≤ x2 then
     (some (x1, M))
     else
     ((F_Stand_heardBits N x2 M).bind (fun q3 =>
     mj_lt (x1 &&& q3.1) (fun v4 =>
     F_W_commonBits_b10 N n v4 (x2 + (1 : Int32)) q3.2)))
set_option maxRecDepth 20000 in
theorem T_W_commonBits_b10 {g : mj_G} (N : Nat) (e : Nat) (he : 1 ≤ e) : ∀ (n : Nat) (x1 : Int32) (x2 : Int32) (M : mj_M), mj_X g (mj_qI g) "WinterTellers" c_W_commonBits 3 (some .int) e 10 [(0, .ref 0), (1, .int x1), (2, .int x2)] [] M (F_W_commonBits_b10 N n x1 x2 M) := by
  intro n
  induction n with
  | zero => intro x1 x2 M; exact mj_none
  | succ n ih =>
    intro x1 x2 M
    rw [F_W_commonBits_b10]
    refine mj_iload_n (pc := 10) (i := 2) rfl dd_W_commonBits_10 ?_
    refine mj_aload_n (pc := 11) (i := 0) rfl dd_W_commonBits_11 ?_
    refine mj_getR (pc := 12) (b := 0) (k := 4) qf_W_42 sh_0 cl_11 rfl (by decide) (r := 13) rfl dd_W_commonBits_12 ?_
    refine mj_getI (pc := 15) (b := 13) (k := 0) qf_W_121 sh_13 cl_0 rfl (by decide) rfl dd_W_commonBits_15 ?_
    refine mj_icmp_ge (pc := 18) (tgt := 38) dd_W_commonBits_18 rfl (fun h2 => ?_) (fun h2 => ?_)
    · refine mj_iload_n (pc := 38) (i := 1) rfl dd_W_commonBits_38 ?_
      exact mj_iret dd_W_commonBits_39 rfl rfl
    · refine mj_iload_n (pc := 21) (i := 1) rfl dd_W_commonBits_21 ?_
      refine mj_aload_n (pc := 22) (i := 0) rfl dd_W_commonBits_22 ?_
      refine mj_getR (pc := 23) (b := 0) (k := 5) qf_W_49 sh_0 cl_11 rfl (by decide) (r := 20) rfl dd_W_commonBits_23 ?_
      refine mj_iload_n (pc := 26) (i := 2) rfl dd_W_commonBits_26 ?_
      refine mj_callVI (pc := 27) (idx := 154) (b := 20) (As := [.int x2]) (st := [.int x1]) sh_20 cl_8 ev_Stand_heardBits ql_W_154 rfl (Nat.le_of_ble_eq_true rfl) (T_Stand_heardBits (g := g) N e (by omega) x2 M) dd_W_commonBits_27 (fun q3 hq3 => ?_)
      refine mj_iand (pc := 30) dd_W_commonBits_30 ?_
      refine mj_istore_nL (pc := 31) (by decide) dd_W_commonBits_31 (fun v4 _ => ?_)
      refine mj_L (L' := [(1, .int v4), (0, .ref 0), (2, .int x2)]) [0, 1, 2] rfl ?_
      refine mj_iinc (pc := 32) (i := 2) (z := (1 : Int32)) rfl (by decide) (by decide) dd_W_commonBits_32 ?_
      refine mj_L (L' := [(2, .int (x2 + (1 : Int32))), (1, .int v4), (0, .ref 0)]) [0, 1, 2] rfl ?_
      refine mj_goto (pc := 35) (tgt := 10) dd_W_commonBits_35 rfl ?_
      refine mj_L (L' := [(0, .ref 0), (1, .int v4), (2, .int (x2 + (1 : Int32)))]) [2, 1, 0] rfl ?_
      exact ih v4 (x2 + (1 : Int32)) q3.2
def F_W_commonBits (N : Nat) (M : mj_M) : Option (Int32 × mj_M) :=
    (F_Coast_allTales M).bind (fun q1 =>
     F_W_commonBits_b10 N N q1.1 (0 : Int32) q1.2)
set_option maxRecDepth 20000 in
theorem T_W_commonBits {g : mj_G} (N : Nat) : ∀ d, 2 ≤ d → ∀ (M : mj_M), mj_Mt g (mj_qI g) d y_W_commonBits c_W_commonBits 3 (some .int) [.ref 0] M (F_W_commonBits N M) := by
  intro d hd M
  obtain ⟨e, rfl⟩ : ∃ e, d = e + 1 := ⟨d - 1, by omega⟩
  have he : 1 ≤ e := by omega
  refine mj_met (by decide +kernel) (Nat.le_of_ble_eq_true rfl) ?_
  unfold F_W_commonBits
  refine mj_L (L' := [(0, .ref 0)]) [0] rfl ?_
  refine mj_aload_n (pc := 0) (i := 0) rfl dd_W_commonBits_0 ?_
  refine mj_getR (pc := 1) (b := 0) (k := 4) qf_W_42 sh_0 cl_11 rfl (by decide) (r := 13) rfl dd_W_commonBits_1 ?_
  refine mj_callVI (pc := 4) (idx := 362) (b := 13) (As := []) (st := []) sh_13 cl_0 ev_Coast_allTales ql_W_362 rfl (Nat.le_of_ble_eq_true rfl) (T_Coast_allTales (g := g) e (by omega) M) dd_W_commonBits_4 (fun q1 hq1 => ?_)
  refine mj_istore_n (pc := 7) (by decide) dd_W_commonBits_7 ?_
  refine mj_L (L' := [(1, .int q1.1), (0, .ref 0)]) [0, 1] rfl ?_
  refine mj_iconst (pc := 8) (v := (0 : Int32)) (by decide) dd_W_commonBits_8 ?_
  refine mj_istore_n (pc := 9) (by decide) dd_W_commonBits_9 ?_
  refine mj_L (L' := [(2, .int (0 : Int32)), (1, .int q1.1), (0, .ref 0)]) [0, 1, 2] rfl ?_
  refine mj_L (L' := [(0, .ref 0), (1, .int q1.1), (2, .int (0 : Int32))]) [2, 1, 0] rfl ?_
  exact T_W_commonBits_b10 (g := g) N e he N q1.1 (0 : Int32) q1.2
def F_Plans_allNights_b4 (N : Nat) : Nat → Int32 → Int32 → mj_M → Option (Int32 × mj_M)
  | 0, _, _, _ => none
  | n + 1, x1, x2, M =>
    if (M 13 0) ≤ x2 then
     (some (x1, M))
     else
     ((F_Plans_nightsIn N x2 M).bind (fun q2 =>
     mj_lt (x1 + q2.1) (fun v3 =>
     F_Plans_allNights_b4 N n v3 (x2 + (1 : Int32)) q2.2)))
set_option maxRecDepth 20000 in
theorem T_Plans_allNights_b4 {g : mj_G} (N : Nat) (e : Nat) (he : 6 ≤ e) : ∀ (n : Nat) (x1 : Int32) (x2 : Int32) (M : mj_M), mj_X g (mj_qI g) "WinterTellers$Plans" c_Plans_allNights 3 (some .int) e 4 [(0, .ref 33), (1, .int x1), (2, .int x2)] [] M (F_Plans_allNights_b4 N n x1 x2 M) := by
  intro n
  induction n with
  | zero => intro x1 x2 M; exact mj_none
  | succ n ih =>
    intro x1 x2 M
    rw [F_Plans_allNights_b4]
    refine mj_iload_n (pc := 4) (i := 2) rfl dd_Plans_allNights_4 ?_
    refine mj_aload_n (pc := 5) (i := 0) rfl dd_Plans_allNights_5 ?_
    refine mj_getR (pc := 6) (b := 33) (k := 7) qf_Plans_24 sh_33 cl_7 rfl (by decide) (r := 13) rfl dd_Plans_allNights_6 ?_
    refine mj_getI (pc := 9) (b := 13) (k := 0) qf_Plans_63 sh_13 cl_0 rfl (by decide) rfl dd_Plans_allNights_9 ?_
    refine mj_icmp_ge (pc := 12) (tgt := 29) dd_Plans_allNights_12 rfl (fun h1 => ?_) (fun h1 => ?_)
    · refine mj_iload_n (pc := 29) (i := 1) rfl dd_Plans_allNights_29 ?_
      exact mj_iret dd_Plans_allNights_30 rfl rfl
    · refine mj_iload_n (pc := 15) (i := 1) rfl dd_Plans_allNights_15 ?_
      refine mj_aload_n (pc := 16) (i := 0) rfl dd_Plans_allNights_16 ?_
      refine mj_iload_n (pc := 17) (i := 2) rfl dd_Plans_allNights_17 ?_
      refine mj_callVI (pc := 18) (idx := 138) (b := 33) (As := [.int x2]) (st := [.int x1]) sh_33 cl_7 ev_Plans_nightsIn ql_Plans_138 rfl (Nat.le_of_ble_eq_true rfl) (T_Plans_nightsIn (g := g) N e (by omega) x2 M) dd_Plans_allNights_18 (fun q2 hq2 => ?_)
      refine mj_iadd (pc := 21) dd_Plans_allNights_21 ?_
      refine mj_istore_nL (pc := 22) (by decide) dd_Plans_allNights_22 (fun v3 _ => ?_)
      refine mj_L (L' := [(1, .int v3), (0, .ref 33), (2, .int x2)]) [0, 1, 2] rfl ?_
      refine mj_iinc (pc := 23) (i := 2) (z := (1 : Int32)) rfl (by decide) (by decide) dd_Plans_allNights_23 ?_
      refine mj_L (L' := [(2, .int (x2 + (1 : Int32))), (1, .int v3), (0, .ref 33)]) [0, 1, 2] rfl ?_
      refine mj_goto (pc := 26) (tgt := 4) dd_Plans_allNights_26 rfl ?_
      refine mj_L (L' := [(0, .ref 33), (1, .int v3), (2, .int (x2 + (1 : Int32)))]) [2, 1, 0] rfl ?_
      exact ih v3 (x2 + (1 : Int32)) q2.2
def F_Plans_allNights (N : Nat) (M : mj_M) : Option (Int32 × mj_M) :=
    F_Plans_allNights_b4 N N (0 : Int32) (0 : Int32) M
set_option maxRecDepth 20000 in
theorem T_Plans_allNights {g : mj_G} (N : Nat) : ∀ d, 7 ≤ d → ∀ (M : mj_M), mj_Mt g (mj_qI g) d y_Plans_allNights c_Plans_allNights 3 (some .int) [.ref 33] M (F_Plans_allNights N M) := by
  intro d hd M
  obtain ⟨e, rfl⟩ : ∃ e, d = e + 1 := ⟨d - 1, by omega⟩
  have he : 6 ≤ e := by omega
  refine mj_met (by decide +kernel) (Nat.le_of_ble_eq_true rfl) ?_
  unfold F_Plans_allNights
  refine mj_L (L' := [(0, .ref 33)]) [0] rfl ?_
  refine mj_iconst (pc := 0) (v := (0 : Int32)) (by decide) dd_Plans_allNights_0 ?_
  refine mj_istore_n (pc := 1) (by decide) dd_Plans_allNights_1 ?_
  refine mj_L (L' := [(1, .int (0 : Int32)), (0, .ref 33)]) [0, 1] rfl ?_
  refine mj_iconst (pc := 2) (v := (0 : Int32)) (by decide) dd_Plans_allNights_2 ?_
  refine mj_istore_n (pc := 3) (by decide) dd_Plans_allNights_3 ?_
  refine mj_L (L' := [(2, .int (0 : Int32)), (1, .int (0 : Int32)), (0, .ref 33)]) [0, 1, 2] rfl ?_
  refine mj_L (L' := [(0, .ref 33), (1, .int (0 : Int32)), (2, .int (0 : Int32))]) [2, 1, 0] rfl ?_
  exact T_Plans_allNights_b4 (g := g) N e he N (0 : Int32) (0 : Int32) M
def F_Plans_holdingHouses_b4 (N : Nat) : Nat → Int32 → Int32 → mj_M → Option (Int32 × mj_M)
  | 0, _, _, _ => none
  | n + 1, x1, x2, M =>
    if (M 13 0) ≤ x2 then
     (some (x1, M))
     else
     ((F_Plans_nightsIn N x2 M).bind (fun q2 =>
     if q2.1 ≤ (0) then
     (F_Plans_holdingHouses_b4 N n x1 (x2 + (1 : Int32)) q2.2)
     else
     (F_Plans_holdingHouses_b4 N n (x1 + (1 : Int32)) (x2 + (1 : Int32)) q2.2)))
set_option maxRecDepth 20000 in
theorem T_Plans_holdingHouses_b4 {g : mj_G} (N : Nat) (e : Nat) (he : 6 ≤ e) : ∀ (n : Nat) (x1 : Int32) (x2 : Int32) (M : mj_M), mj_X g (mj_qI g) "WinterTellers$Plans" c_Plans_holdingHouses 3 (some .int) e 4 [(0, .ref 33), (1, .int x1), (2, .int x2)] [] M (F_Plans_holdingHouses_b4 N n x1 x2 M) := by
  intro n
  induction n with
  | zero => intro x1 x2 M; exact mj_none
  | succ n ih =>
    intro x1 x2 M
    rw [F_Plans_holdingHouses_b4]
    refine mj_iload_n (pc := 4) (i := 2) rfl dd_Plans_holdingHouses_4 ?_
    refine mj_aload_n (pc := 5) (i := 0) rfl dd_Plans_holdingHouses_5 ?_
    refine mj_getR (pc := 6) (b := 33) (k := 7) qf_Plans_24 sh_33 cl_7 rfl (by decide) (r := 13) rfl dd_Plans_holdingHouses_6 ?_
    refine mj_getI (pc := 9) (b := 13) (k := 0) qf_Plans_63 sh_13 cl_0 rfl (by decide) rfl dd_Plans_holdingHouses_9 ?_
    refine mj_icmp_ge (pc := 12) (tgt := 32) dd_Plans_holdingHouses_12 rfl (fun h1 => ?_) (fun h1 => ?_)
    · refine mj_iload_n (pc := 32) (i := 1) rfl dd_Plans_holdingHouses_32 ?_
      exact mj_iret dd_Plans_holdingHouses_33 rfl rfl
    · refine mj_aload_n (pc := 15) (i := 0) rfl dd_Plans_holdingHouses_15 ?_
      refine mj_iload_n (pc := 16) (i := 2) rfl dd_Plans_holdingHouses_16 ?_
      refine mj_callVI (pc := 17) (idx := 138) (b := 33) (As := [.int x2]) (st := []) sh_33 cl_7 ev_Plans_nightsIn ql_Plans_138 rfl (Nat.le_of_ble_eq_true rfl) (T_Plans_nightsIn (g := g) N e (by omega) x2 M) dd_Plans_holdingHouses_17 (fun q2 hq2 => ?_)
      refine mj_if_le (pc := 20) (tgt := 26) dd_Plans_holdingHouses_20 rfl (fun h3 => ?_) (fun h3 => ?_)
      · refine mj_iinc (pc := 26) (i := 2) (z := (1 : Int32)) rfl (by decide) (by decide) dd_Plans_holdingHouses_26 ?_
        refine mj_L (L' := [(2, .int (x2 + (1 : Int32))), (0, .ref 33), (1, .int x1)]) [0, 1, 2] rfl ?_
        refine mj_goto (pc := 29) (tgt := 4) dd_Plans_holdingHouses_29 rfl ?_
        refine mj_L (L' := [(0, .ref 33), (1, .int x1), (2, .int (x2 + (1 : Int32)))]) [1, 2, 0] rfl ?_
        exact ih x1 (x2 + (1 : Int32)) q2.2
      · refine mj_iinc (pc := 23) (i := 1) (z := (1 : Int32)) rfl (by decide) (by decide) dd_Plans_holdingHouses_23 ?_
        refine mj_L (L' := [(1, .int (x1 + (1 : Int32))), (0, .ref 33), (2, .int x2)]) [0, 1, 2] rfl ?_
        refine mj_iinc (pc := 26) (i := 2) (z := (1 : Int32)) rfl (by decide) (by decide) dd_Plans_holdingHouses_26 ?_
        refine mj_L (L' := [(2, .int (x2 + (1 : Int32))), (1, .int (x1 + (1 : Int32))), (0, .ref 33)]) [0, 1, 2] rfl ?_
        refine mj_goto (pc := 29) (tgt := 4) dd_Plans_holdingHouses_29 rfl ?_
        refine mj_L (L' := [(0, .ref 33), (1, .int (x1 + (1 : Int32))), (2, .int (x2 + (1 : Int32)))]) [2, 1, 0] rfl ?_
        exact ih (x1 + (1 : Int32)) (x2 + (1 : Int32)) q2.2
def F_Plans_holdingHouses (N : Nat) (M : mj_M) : Option (Int32 × mj_M) :=
    F_Plans_holdingHouses_b4 N N (0 : Int32) (0 : Int32) M
set_option maxRecDepth 20000 in
theorem T_Plans_holdingHouses {g : mj_G} (N : Nat) : ∀ d, 7 ≤ d → ∀ (M : mj_M), mj_Mt g (mj_qI g) d y_Plans_holdingHouses c_Plans_holdingHouses 3 (some .int) [.ref 33] M (F_Plans_holdingHouses N M) := by
  intro d hd M
  obtain ⟨e, rfl⟩ : ∃ e, d = e + 1 := ⟨d - 1, by omega⟩
  have he : 6 ≤ e := by omega
  refine mj_met (by decide +kernel) (Nat.le_of_ble_eq_true rfl) ?_
  unfold F_Plans_holdingHouses
  refine mj_L (L' := [(0, .ref 33)]) [0] rfl ?_
  refine mj_iconst (pc := 0) (v := (0 : Int32)) (by decide) dd_Plans_holdingHouses_0 ?_
  refine mj_istore_n (pc := 1) (by decide) dd_Plans_holdingHouses_1 ?_
  refine mj_L (L' := [(1, .int (0 : Int32)), (0, .ref 33)]) [0, 1] rfl ?_
  refine mj_iconst (pc := 2) (v := (0 : Int32)) (by decide) dd_Plans_holdingHouses_2 ?_
  refine mj_istore_n (pc := 3) (by decide) dd_Plans_holdingHouses_3 ?_
  refine mj_L (L' := [(2, .int (0 : Int32)), (1, .int (0 : Int32)), (0, .ref 33)]) [0, 1, 2] rfl ?_
  refine mj_L (L' := [(0, .ref 33), (1, .int (0 : Int32)), (2, .int (0 : Int32))]) [2, 1, 0] rfl ?_
  exact T_Plans_holdingHouses_b4 (g := g) N e he N (0 : Int32) (0 : Int32) M
def F_W_most (N : Nat) (x1 : Int32) (M : mj_M) : Option (Int32 × mj_M) :=
    (F_Coast_isTold M).bind (fun q1 =>
     if q1.1 = (0) then
     (some ((-1 : Int32), q1.2))
     else
     (if x1 = (0 : Int32) then
     ((F_W_highest_c17 N (q1.2 13 1) q1.2).bind (fun q4 =>
     some (q4.1, q4.2)))
     else
     (if x1 = (1 : Int32) then
     ((F_W_highest_c21 N (q1.2 13 1) q1.2).bind (fun q6 =>
     some (q6.1, q6.2)))
     else
     (if x1 = (2 : Int32) then
     ((F_W_highest_c15 N (q1.2 13 0) q1.2).bind (fun q8 =>
     some (q8.1, q8.2)))
     else
     (if x1 = (3 : Int32) then
     ((F_W_highest_c16 N (q1.2 13 0) q1.2).bind (fun q10 =>
     some (q10.1, q10.2)))
     else
     (if x1 = (4 : Int32) then
     ((F_Plans_dullest N q1.2).bind (fun q12 =>
     some (q12.1, q12.2)))
     else
     (if x1 = (5 : Int32) then
     ((F_Coast_trueBits N q1.2).bind (fun q14 =>
     some (q14.1, q14.2)))
     else
     (if x1 = (6 : Int32) then
     ((F_W_commonBits N q1.2).bind (fun q16 =>
     some (q16.1, q16.2)))
     else
     (if x1 = (7 : Int32) then
     ((F_Plans_allNights N q1.2).bind (fun q18 =>
     some (q18.1, q18.2)))
     else
     (if x1 = (8 : Int32) then
     ((F_Plans_holdingHouses N q1.2).bind (fun q20 =>
     some (q20.1, q20.2)))
     else
     (some ((-1 : Int32), q1.2))))))))))))
set_option maxRecDepth 20000 in
theorem T_W_most {g : mj_G} (N : Nat) : ∀ d, 8 ≤ d → ∀ (x1 : Int32) (M : mj_M), mj_Mt g (mj_qI g) d y_W_most c_W_most 2 (some .int) [.ref 0, .int x1] M (F_W_most N x1 M) := by
  intro d hd x1 M
  obtain ⟨e, rfl⟩ : ∃ e, d = e + 1 := ⟨d - 1, by omega⟩
  have he : 7 ≤ e := by omega
  refine mj_met (by decide +kernel) (Nat.le_of_ble_eq_true rfl) ?_
  unfold F_W_most
  refine mj_L (L' := [(0, .ref 0), (1, .int x1)]) [0, 1] rfl ?_
  refine mj_aload_n (pc := 0) (i := 0) rfl dd_W_most_0 ?_
  refine mj_getR (pc := 1) (b := 0) (k := 4) qf_W_42 sh_0 cl_11 rfl (by decide) (r := 13) rfl dd_W_most_1 ?_
  refine mj_callVI (pc := 4) (idx := 235) (b := 13) (As := []) (st := []) sh_13 cl_0 ev_Coast_isTold ql_W_235 rfl (Nat.le_of_ble_eq_true rfl) (T_Coast_isTold (g := g) e (by omega) M) dd_W_most_4 (fun q1 hq1 => ?_)
  refine mj_if_ne (pc := 7) (tgt := 12) dd_W_most_7 rfl (fun h2 => ?_) (fun h2 => ?_)
  · refine mj_iconst (pc := 10) (v := (-1 : Int32)) (by decide) dd_W_most_10 ?_
    exact mj_iret dd_W_most_11 rfl rfl
  · refine mj_iload_n (pc := 12) (i := 1) rfl dd_W_most_12 ?_
    refine mj_ife (fun h3 => ?_) (fun h3 => ?_)
    · refine mj_tswK (pc := 13) (tgt := 64) (k := (0 : Int32)) (off := 51) h3 dd_W_most_13 (by decide) (by decide) rfl rfl ?_
      refine mj_aload_n (pc := 64) (i := 0) rfl dd_W_most_64 ?_
      refine mj_getR (pc := 65) (b := 0) (k := 4) qf_W_42 sh_0 cl_11 rfl (by decide) (r := 13) rfl dd_W_most_65 ?_
      refine mj_getR (pc := 68) (b := 13) (k := 9) qf_W_169 sh_13 cl_0 rfl (by decide) (r := 17) rfl dd_W_most_68 ?_
      refine mj_aload_n (pc := 71) (i := 0) rfl dd_W_most_71 ?_
      refine mj_getR (pc := 72) (b := 0) (k := 4) qf_W_42 sh_0 cl_11 rfl (by decide) (r := 13) rfl dd_W_most_72 ?_
      refine mj_getI (pc := 75) (b := 13) (k := 1) qf_W_250 sh_13 cl_0 rfl (by decide) rfl dd_W_most_75 ?_
      refine mj_callSI (pc := 78) (idx := 343) (As := [.ref 17, .int (q1.2 13 1)]) (st := []) es_W_highest ql_W_343 rfl (Nat.le_of_ble_eq_true rfl) (T_W_highest_c17 (g := g) N e (by omega) (q1.2 13 1) q1.2) dd_W_most_78 (fun q4 hq4 => ?_)
      exact mj_iret dd_W_most_81 rfl rfl
    · refine mj_ife (fun h5 => ?_) (fun h5 => ?_)
      · refine mj_tswK (pc := 13) (tgt := 82) (k := (1 : Int32)) (off := 69) h5 dd_W_most_13 (by decide) (by decide) rfl rfl ?_
        refine mj_aload_n (pc := 82) (i := 0) rfl dd_W_most_82 ?_
        refine mj_getR (pc := 83) (b := 0) (k := 5) qf_W_49 sh_0 cl_11 rfl (by decide) (r := 20) rfl dd_W_most_83 ?_
        refine mj_getR (pc := 86) (b := 20) (k := 7) qf_W_172 sh_20 cl_8 rfl (by decide) (r := 21) rfl dd_W_most_86 ?_
        refine mj_aload_n (pc := 89) (i := 0) rfl dd_W_most_89 ?_
        refine mj_getR (pc := 90) (b := 0) (k := 4) qf_W_42 sh_0 cl_11 rfl (by decide) (r := 13) rfl dd_W_most_90 ?_
        refine mj_getI (pc := 93) (b := 13) (k := 1) qf_W_250 sh_13 cl_0 rfl (by decide) rfl dd_W_most_93 ?_
        refine mj_callSI (pc := 96) (idx := 343) (As := [.ref 21, .int (q1.2 13 1)]) (st := []) es_W_highest ql_W_343 rfl (Nat.le_of_ble_eq_true rfl) (T_W_highest_c21 (g := g) N e (by omega) (q1.2 13 1) q1.2) dd_W_most_96 (fun q6 hq6 => ?_)
        exact mj_iret dd_W_most_99 rfl rfl
      · refine mj_ife (fun h7 => ?_) (fun h7 => ?_)
        · refine mj_tswK (pc := 13) (tgt := 100) (k := (2 : Int32)) (off := 87) h7 dd_W_most_13 (by decide) (by decide) rfl rfl ?_
          refine mj_aload_n (pc := 100) (i := 0) rfl dd_W_most_100 ?_
          refine mj_getR (pc := 101) (b := 0) (k := 4) qf_W_42 sh_0 cl_11 rfl (by decide) (r := 13) rfl dd_W_most_101 ?_
          refine mj_getR (pc := 104) (b := 13) (k := 7) qf_W_157 sh_13 cl_0 rfl (by decide) (r := 15) rfl dd_W_most_104 ?_
          refine mj_aload_n (pc := 107) (i := 0) rfl dd_W_most_107 ?_
          refine mj_getR (pc := 108) (b := 0) (k := 4) qf_W_42 sh_0 cl_11 rfl (by decide) (r := 13) rfl dd_W_most_108 ?_
          refine mj_getI (pc := 111) (b := 13) (k := 0) qf_W_121 sh_13 cl_0 rfl (by decide) rfl dd_W_most_111 ?_
          refine mj_callSI (pc := 114) (idx := 343) (As := [.ref 15, .int (q1.2 13 0)]) (st := []) es_W_highest ql_W_343 rfl (Nat.le_of_ble_eq_true rfl) (T_W_highest_c15 (g := g) N e (by omega) (q1.2 13 0) q1.2) dd_W_most_114 (fun q8 hq8 => ?_)
          exact mj_iret dd_W_most_117 rfl rfl
        · refine mj_ife (fun h9 => ?_) (fun h9 => ?_)
          · refine mj_tswK (pc := 13) (tgt := 118) (k := (3 : Int32)) (off := 105) h9 dd_W_most_13 (by decide) (by decide) rfl rfl ?_
            refine mj_aload_n (pc := 118) (i := 0) rfl dd_W_most_118 ?_
            refine mj_getR (pc := 119) (b := 0) (k := 4) qf_W_42 sh_0 cl_11 rfl (by decide) (r := 13) rfl dd_W_most_119 ?_
            refine mj_getR (pc := 122) (b := 13) (k := 8) qf_W_160 sh_13 cl_0 rfl (by decide) (r := 16) rfl dd_W_most_122 ?_
            refine mj_aload_n (pc := 125) (i := 0) rfl dd_W_most_125 ?_
            refine mj_getR (pc := 126) (b := 0) (k := 4) qf_W_42 sh_0 cl_11 rfl (by decide) (r := 13) rfl dd_W_most_126 ?_
            refine mj_getI (pc := 129) (b := 13) (k := 0) qf_W_121 sh_13 cl_0 rfl (by decide) rfl dd_W_most_129 ?_
            refine mj_callSI (pc := 132) (idx := 343) (As := [.ref 16, .int (q1.2 13 0)]) (st := []) es_W_highest ql_W_343 rfl (Nat.le_of_ble_eq_true rfl) (T_W_highest_c16 (g := g) N e (by omega) (q1.2 13 0) q1.2) dd_W_most_132 (fun q10 hq10 => ?_)
            exact mj_iret dd_W_most_135 rfl rfl
          · refine mj_ife (fun h11 => ?_) (fun h11 => ?_)
            · refine mj_tswK (pc := 13) (tgt := 136) (k := (4 : Int32)) (off := 123) h11 dd_W_most_13 (by decide) (by decide) rfl rfl ?_
              refine mj_aload_n (pc := 136) (i := 0) rfl dd_W_most_136 ?_
              refine mj_getR (pc := 137) (b := 0) (k := 9) qf_W_83 sh_0 cl_11 rfl (by decide) (r := 33) rfl dd_W_most_137 ?_
              refine mj_callVI (pc := 140) (idx := 347) (b := 33) (As := []) (st := []) sh_33 cl_7 ev_Plans_dullest ql_W_347 rfl (Nat.le_of_ble_eq_true rfl) (T_Plans_dullest (g := g) N e (by omega) q1.2) dd_W_most_140 (fun q12 hq12 => ?_)
              exact mj_iret dd_W_most_143 rfl rfl
            · refine mj_ife (fun h13 => ?_) (fun h13 => ?_)
              · refine mj_tswK (pc := 13) (tgt := 144) (k := (5 : Int32)) (off := 131) h13 dd_W_most_13 (by decide) (by decide) rfl rfl ?_
                refine mj_aload_n (pc := 144) (i := 0) rfl dd_W_most_144 ?_
                refine mj_getR (pc := 145) (b := 0) (k := 4) qf_W_42 sh_0 cl_11 rfl (by decide) (r := 13) rfl dd_W_most_145 ?_
                refine mj_callVI (pc := 148) (idx := 350) (b := 13) (As := []) (st := []) sh_13 cl_0 ev_Coast_trueBits ql_W_350 rfl (Nat.le_of_ble_eq_true rfl) (T_Coast_trueBits (g := g) N e (by omega) q1.2) dd_W_most_148 (fun q14 hq14 => ?_)
                exact mj_iret dd_W_most_151 rfl rfl
              · refine mj_ife (fun h15 => ?_) (fun h15 => ?_)
                · refine mj_tswK (pc := 13) (tgt := 152) (k := (6 : Int32)) (off := 139) h15 dd_W_most_13 (by decide) (by decide) rfl rfl ?_
                  refine mj_aload_n (pc := 152) (i := 0) rfl dd_W_most_152 ?_
                  refine mj_callVI (pc := 153) (idx := 353) (b := 0) (As := []) (st := []) sh_0 cl_11 ev_W_commonBits ql_W_353 rfl (Nat.le_of_ble_eq_true rfl) (T_W_commonBits (g := g) N e (by omega) q1.2) dd_W_most_153 (fun q16 hq16 => ?_)
                  exact mj_iret dd_W_most_156 rfl rfl
                · refine mj_ife (fun h17 => ?_) (fun h17 => ?_)
                  · refine mj_tswK (pc := 13) (tgt := 157) (k := (7 : Int32)) (off := 144) h17 dd_W_most_13 (by decide) (by decide) rfl rfl ?_
                    refine mj_aload_n (pc := 157) (i := 0) rfl dd_W_most_157 ?_
                    refine mj_getR (pc := 158) (b := 0) (k := 9) qf_W_83 sh_0 cl_11 rfl (by decide) (r := 33) rfl dd_W_most_158 ?_
                    refine mj_callVI (pc := 161) (idx := 356) (b := 33) (As := []) (st := []) sh_33 cl_7 ev_Plans_allNights ql_W_356 rfl (Nat.le_of_ble_eq_true rfl) (T_Plans_allNights (g := g) N e (by omega) q1.2) dd_W_most_161 (fun q18 hq18 => ?_)
                    exact mj_iret dd_W_most_164 rfl rfl
                  · refine mj_ife (fun h19 => ?_) (fun h19 => ?_)
                    · refine mj_tswK (pc := 13) (tgt := 165) (k := (8 : Int32)) (off := 152) h19 dd_W_most_13 (by decide) (by decide) rfl rfl ?_
                      refine mj_aload_n (pc := 165) (i := 0) rfl dd_W_most_165 ?_
                      refine mj_getR (pc := 166) (b := 0) (k := 9) qf_W_83 sh_0 cl_11 rfl (by decide) (r := 33) rfl dd_W_most_166 ?_
                      refine mj_callVI (pc := 169) (idx := 359) (b := 33) (As := []) (st := []) sh_33 cl_7 ev_Plans_holdingHouses ql_W_359 rfl (Nat.le_of_ble_eq_true rfl) (T_Plans_holdingHouses (g := g) N e (by omega) q1.2) dd_W_most_169 (fun q20 hq20 => ?_)
                      exact mj_iret dd_W_most_172 rfl rfl
                    · refine mj_tswD (pc := 13) (tgt := 173) [0, 1, 2, 3, 4, 5, 6, 7, 8] (mj_k1 (mj_ni (k := (0 : Int32)) (n := 0) (by decide) h3) (mj_k1 (mj_ni (k := (1 : Int32)) (n := 1) (by decide) h5) (mj_k1 (mj_ni (k := (2 : Int32)) (n := 2) (by decide) h7) (mj_k1 (mj_ni (k := (3 : Int32)) (n := 3) (by decide) h9) (mj_k1 (mj_ni (k := (4 : Int32)) (n := 4) (by decide) h11) (mj_k1 (mj_ni (k := (5 : Int32)) (n := 5) (by decide) h13) (mj_k1 (mj_ni (k := (6 : Int32)) (n := 6) (by decide) h15) (mj_k1 (mj_ni (k := (7 : Int32)) (n := 7) (by decide) h17) (mj_k1 (mj_ni (k := (8 : Int32)) (n := 8) (by decide) h19) mj_k0))))))))) dd_W_most_13 (by decide) (by decide) rfl ?_
                      refine mj_iconst (pc := 173) (v := (-1 : Int32)) (by decide) dd_W_most_173 ?_
                      exact mj_iret dd_W_most_174 rfl rfl
def F_M_topTale_b51 (N : Nat) (k4 : Int32 → Int32 → Int32 → mj_M → Option (Int32 × mj_M)) (x1 : Int32) (x2 : Int32) (x3 : Int32) (s0 : Int32) (M : mj_M) : Option (Int32 × mj_M) :=
    if s0 ≤ (0) then
     (k4 x1 x2 (x3 + (1 : Int32)) M)
     else
     (k4 x1 x3 (x3 + (1 : Int32)) M)
set_option maxRecDepth 20000 in
theorem T_M_topTale_b51 {g : mj_G} (N : Nat) (e : Nat) (he : 1 ≤ e) (k4 : Int32 → Int32 → Int32 → mj_M → Option (Int32 × mj_M)) (hk4 : ∀ (x1 : Int32) (x2 : Int32) (x3 : Int32) (M : mj_M), mj_X g (mj_qI g) "WinterTellersModel" c_M_topTale 5 (some .int) e 4 [(0, .ref 48), (1, .int x1), (2, .int x2), (3, .int x3)] [] M (k4 x1 x2 x3 M)) (x1 : Int32) (x2 : Int32) (x3 : Int32) (s0 : Int32) (M : mj_M) : mj_X g (mj_qI g) "WinterTellersModel" c_M_topTale 5 (some .int) e 51 [(0, .ref 48), (1, .int x1), (2, .int x2), (3, .int x3)] [.int s0] M (F_M_topTale_b51 N k4 x1 x2 x3 s0 M) := by
  unfold F_M_topTale_b51
  refine mj_istore (pc := 51) (by decide) dd_M_topTale_51 ?_
  refine mj_L (L' := [(4, .int s0), (0, .ref 48), (1, .int x1), (2, .int x2), (3, .int x3)]) [0, 1, 2, 3, 4] rfl ?_
  refine mj_iload (pc := 53) (i := 4) rfl dd_M_topTale_53 ?_
  refine mj_if_le (pc := 55) (tgt := 62) dd_M_topTale_55 rfl (fun h5 => ?_) (fun h5 => ?_)
  · refine mj_iload_n (pc := 62) (i := 2) rfl dd_M_topTale_62 ?_
    refine mj_istore_n (pc := 63) (by decide) dd_M_topTale_63 ?_
    refine mj_L (L' := [(2, .int x2), (0, .ref 48), (1, .int x1), (3, .int x3)]) [0, 2, 3, 4] rfl ?_
    refine mj_iinc (pc := 64) (i := 3) (z := (1 : Int32)) rfl (by decide) (by decide) dd_M_topTale_64 ?_
    refine mj_L (L' := [(3, .int (x3 + (1 : Int32))), (2, .int x2), (0, .ref 48), (1, .int x1)]) [0, 1, 2, 3] rfl ?_
    refine mj_goto (pc := 67) (tgt := 4) dd_M_topTale_67 rfl ?_
    refine mj_L (L' := [(0, .ref 48), (1, .int x1), (2, .int x2), (3, .int (x3 + (1 : Int32)))]) [2, 3, 1, 0] rfl ?_
    exact hk4 x1 x2 (x3 + (1 : Int32)) M
  · refine mj_iload_n (pc := 58) (i := 3) rfl dd_M_topTale_58 ?_
    refine mj_goto (pc := 59) (tgt := 63) dd_M_topTale_59 rfl ?_
    refine mj_istore_n (pc := 63) (by decide) dd_M_topTale_63 ?_
    refine mj_L (L' := [(2, .int x3), (0, .ref 48), (1, .int x1), (3, .int x3)]) [0, 2, 3, 4] rfl ?_
    refine mj_iinc (pc := 64) (i := 3) (z := (1 : Int32)) rfl (by decide) (by decide) dd_M_topTale_64 ?_
    refine mj_L (L' := [(3, .int (x3 + (1 : Int32))), (2, .int x3), (0, .ref 48), (1, .int x1)]) [0, 1, 2, 3] rfl ?_
    refine mj_goto (pc := 67) (tgt := 4) dd_M_topTale_67 rfl ?_
    refine mj_L (L' := [(0, .ref 48), (1, .int x1), (2, .int x3), (3, .int (x3 + (1 : Int32)))]) [2, 3, 1, 0] rfl ?_
    exact hk4 x1 x3 (x3 + (1 : Int32)) M
def F_M_topTale_b4 (N : Nat) : Nat → Int32 → Int32 → Int32 → mj_M → Option (Int32 × mj_M)
  | 0, _, _, _, _ => none
  | n + 1, x1, x2, x3, M =>
    if (M 48 26) ≤ x3 then
     (some (x2, M))
     else
     (if x1 = (0) then
     (mj_ck ((36 : Int32) + x3) 229 (
     mj_ck ((36 : Int32) + x2) 229 (
     F_M_topTale_b51 N (F_M_topTale_b4 N n) x1 x2 x3 ((M 65 ((36 : Int32) + x3).toNatClampNeg) - (M 65 ((36 : Int32) + x2).toNatClampNeg)) M)))
     else
     ((F_M_ofTale x3 (0 : Int32) M).bind (fun q3 =>
     (F_M_ofTale x2 (0 : Int32) q3.2).bind (fun q4 =>
     F_M_topTale_b51 N (F_M_topTale_b4 N n) x1 x2 x3 (q3.1 - q4.1) q4.2))))
set_option maxRecDepth 20000 in
theorem T_M_topTale_b4 {g : mj_G} (N : Nat) (e : Nat) (he : 1 ≤ e) : ∀ (n : Nat) (x1 : Int32) (x2 : Int32) (x3 : Int32) (M : mj_M), mj_X g (mj_qI g) "WinterTellersModel" c_M_topTale 5 (some .int) e 4 [(0, .ref 48), (1, .int x1), (2, .int x2), (3, .int x3)] [] M (F_M_topTale_b4 N n x1 x2 x3 M) := by
  intro n
  induction n with
  | zero => intro x1 x2 x3 M; exact mj_none
  | succ n ih =>
    intro x1 x2 x3 M
    rw [F_M_topTale_b4]
    refine mj_iload_n (pc := 4) (i := 3) rfl dd_M_topTale_4 ?_
    refine mj_aload_n (pc := 5) (i := 0) rfl dd_M_topTale_5 ?_
    refine mj_getI (pc := 6) (b := 48) (k := 26) qf_M_245 sh_48 cl_12 rfl (by decide) rfl dd_M_topTale_6 ?_
    refine mj_icmp_ge (pc := 9) (tgt := 70) dd_M_topTale_9 rfl (fun h1 => ?_) (fun h1 => ?_)
    · refine mj_iload_n (pc := 70) (i := 2) rfl dd_M_topTale_70 ?_
      exact mj_iret dd_M_topTale_71 rfl rfl
    · refine mj_iload_n (pc := 12) (i := 1) rfl dd_M_topTale_12 ?_
      refine mj_if_eq (pc := 13) (tgt := 32) dd_M_topTale_13 rfl (fun h2 => ?_) (fun h2 => ?_)
      · refine mj_aload_n (pc := 32) (i := 0) rfl dd_M_topTale_32 ?_
        refine mj_getR (pc := 33) (b := 48) (k := 27) qf_M_58 sh_48 cl_12 rfl (by decide) (r := 65) rfl dd_M_topTale_33 ?_
        refine mj_bipush (pc := 36) (v := (36 : Int32)) (by decide) dd_M_topTale_36 ?_
        refine mj_iload_n (pc := 38) (i := 3) rfl dd_M_topTale_38 ?_
        refine mj_iadd (pc := 39) dd_M_topTale_39 ?_
        refine mj_iald (pc := 40) sh_65 dd_M_topTale_40 ?_
        refine mj_aload_n (pc := 41) (i := 0) rfl dd_M_topTale_41 ?_
        refine mj_getR (pc := 42) (b := 48) (k := 27) qf_M_58 sh_48 cl_12 rfl (by decide) (r := 65) rfl dd_M_topTale_42 ?_
        refine mj_bipush (pc := 45) (v := (36 : Int32)) (by decide) dd_M_topTale_45 ?_
        refine mj_iload_n (pc := 47) (i := 2) rfl dd_M_topTale_47 ?_
        refine mj_iadd (pc := 48) dd_M_topTale_48 ?_
        refine mj_iald (pc := 49) sh_65 dd_M_topTale_49 ?_
        refine mj_isub (pc := 50) dd_M_topTale_50 ?_
        refine mj_L (L' := [(0, .ref 48), (1, .int x1), (2, .int x2), (3, .int x3)]) [0, 1, 2, 3] rfl ?_
        exact T_M_topTale_b51 (g := g) N e he (F_M_topTale_b4 N n) ih x1 x2 x3 ((M 65 ((36 : Int32) + x3).toNatClampNeg) - (M 65 ((36 : Int32) + x2).toNatClampNeg)) M
      · refine mj_aload_n (pc := 16) (i := 0) rfl dd_M_topTale_16 ?_
        refine mj_iload_n (pc := 17) (i := 3) rfl dd_M_topTale_17 ?_
        refine mj_iconst (pc := 18) (v := (0 : Int32)) (by decide) dd_M_topTale_18 ?_
        refine mj_callVI (pc := 19) (idx := 248) (b := 48) (As := [.int x3, .int (0 : Int32)]) (st := []) sh_48 cl_12 ev_M_ofTale ql_M_248 rfl (Nat.le_of_ble_eq_true rfl) (T_M_ofTale (g := g) e (by omega) x3 (0 : Int32) M) dd_M_topTale_19 (fun q3 hq3 => ?_)
        refine mj_aload_n (pc := 22) (i := 0) rfl dd_M_topTale_22 ?_
        refine mj_iload_n (pc := 23) (i := 2) rfl dd_M_topTale_23 ?_
        refine mj_iconst (pc := 24) (v := (0 : Int32)) (by decide) dd_M_topTale_24 ?_
        refine mj_callVI (pc := 25) (idx := 248) (b := 48) (As := [.int x2, .int (0 : Int32)]) (st := [.int q3.1]) sh_48 cl_12 ev_M_ofTale ql_M_248 rfl (Nat.le_of_ble_eq_true rfl) (T_M_ofTale (g := g) e (by omega) x2 (0 : Int32) q3.2) dd_M_topTale_25 (fun q4 hq4 => ?_)
        refine mj_isub (pc := 28) dd_M_topTale_28 ?_
        refine mj_goto (pc := 29) (tgt := 51) dd_M_topTale_29 rfl ?_
        refine mj_L (L' := [(0, .ref 48), (1, .int x1), (2, .int x2), (3, .int x3)]) [0, 1, 2, 3] rfl ?_
        exact T_M_topTale_b51 (g := g) N e he (F_M_topTale_b4 N n) ih x1 x2 x3 (q3.1 - q4.1) q4.2
def F_M_topTale (N : Nat) (x1 : Int32) (M : mj_M) : Option (Int32 × mj_M) :=
    F_M_topTale_b4 N N x1 (0 : Int32) (1 : Int32) M
set_option maxRecDepth 20000 in
theorem T_M_topTale {g : mj_G} (N : Nat) : ∀ d, 2 ≤ d → ∀ (x1 : Int32) (M : mj_M), mj_Mt g (mj_qI g) d y_M_topTale c_M_topTale 5 (some .int) [.ref 48, .int x1] M (F_M_topTale N x1 M) := by
  intro d hd x1 M
  obtain ⟨e, rfl⟩ : ∃ e, d = e + 1 := ⟨d - 1, by omega⟩
  have he : 1 ≤ e := by omega
  refine mj_met (by decide +kernel) (Nat.le_of_ble_eq_true rfl) ?_
  unfold F_M_topTale
  refine mj_L (L' := [(0, .ref 48), (1, .int x1)]) [0, 1] rfl ?_
  refine mj_iconst (pc := 0) (v := (0 : Int32)) (by decide) dd_M_topTale_0 ?_
  refine mj_istore_n (pc := 1) (by decide) dd_M_topTale_1 ?_
  refine mj_L (L' := [(2, .int (0 : Int32)), (0, .ref 48), (1, .int x1)]) [0, 1, 2] rfl ?_
  refine mj_iconst (pc := 2) (v := (1 : Int32)) (by decide) dd_M_topTale_2 ?_
  refine mj_istore_n (pc := 3) (by decide) dd_M_topTale_3 ?_
  refine mj_L (L' := [(3, .int (1 : Int32)), (2, .int (0 : Int32)), (0, .ref 48), (1, .int x1)]) [0, 1, 2, 3] rfl ?_
  refine mj_L (L' := [(0, .ref 48), (1, .int x1), (2, .int (0 : Int32)), (3, .int (1 : Int32))]) [2, 3, 1, 0] rfl ?_
  exact T_M_topTale_b4 (g := g) N e he N x1 (0 : Int32) (1 : Int32) M
