/-! ===== the law from its entry ===== -/
theorem qI_0 : Cond.instantiable mj_R0 12 ∈ lw_tbl := List.mem_append_right _ (List.mem_of_getElem? (i := 63) (by decide +kernel))
theorem qI_1 : Cond.instantiable mj_R1 4 ∈ lw_tbl := List.mem_append_right _ (List.mem_of_getElem? (i := 57) (by decide +kernel))
theorem qI_2 : Cond.instantiable mj_R2 4 ∈ lw_tbl := List.mem_append_right _ (List.mem_of_getElem? (i := 382) (by decide +kernel))
theorem qI_3 : Cond.instantiable mj_R3 6 ∈ lw_tbl := List.mem_append_right _ (List.mem_of_getElem? (i := 299) (by decide +kernel))
theorem qI_4 : Cond.instantiable mj_R4 3 ∈ lw_tbl := List.mem_append_right _ (List.mem_of_getElem? (i := 155) (by decide +kernel))
theorem qI_5 : Cond.instantiable mj_R5 6 ∈ lw_tbl := List.mem_append_right _ (List.mem_of_getElem? (i := 173) (by decide +kernel))
theorem qI_6 : Cond.instantiable mj_R6 6 ∈ lw_tbl := List.mem_append_right _ (List.mem_of_getElem? (i := 256) (by decide +kernel))
theorem qI_7 : Cond.instantiable mj_R7 14 ∈ lw_tbl := List.mem_append_right _ (List.mem_of_getElem? (i := 326) (by decide +kernel))
theorem qI_8 : Cond.instantiable mj_R8 10 ∈ lw_tbl := List.mem_append_right _ (List.mem_of_getElem? (i := 204) (by decide +kernel))
theorem qI_9 : Cond.instantiable mj_R9 3 ∈ lw_tbl := List.mem_append_right _ (List.mem_of_getElem? (i := 283) (by decide +kernel))
theorem qI_10 : Cond.instantiable mj_R10 4 ∈ lw_tbl := List.mem_append_right _ (List.mem_of_getElem? (i := 31) (by decide +kernel))
theorem qI_11 : Cond.instantiable mj_R11 13 ∈ lw_tbl := List.mem_append_right _ (List.mem_of_getElem? (i := 23) (by decide +kernel))
theorem qI_12 : Cond.instantiable mj_R12 45 ∈ lw_tbl := List.mem_append_right _ (List.mem_of_getElem? (i := 1166) (by decide +kernel))
theorem mj_NLof {args : Array Value} {s : State} (h : ∀ w ∈ lw_tbl, w.before args s = true) : mj_NL s := ⟨va_Nw.of rfl (h (.methodLinkNest "WinterTellers" 11 ⟨"WinterTellers$Tape", "<init>", "()V"⟩ "WinterTellers") (List.mem_append_right _ (List.mem_of_getElem? (i := 32) (by decide +kernel)))), va_Nw.of rfl (h (.methodLinkNest "WinterTellers" 34 ⟨"WinterTellers$Laws", "<init>", "()V"⟩ "WinterTellers") (List.mem_append_right _ (List.mem_of_getElem? (i := 174) (by decide +kernel)))), va_Nw.of rfl (h (.methodLinkNest "WinterTellers" 41 ⟨"WinterTellers$Coast", "<init>", "()V"⟩ "WinterTellers") (List.mem_append_right _ (List.mem_of_getElem? (i := 202) (by decide +kernel)))), va_Nw.of rfl (h (.methodLinkNest "WinterTellers" 48 ⟨"WinterTellers$Stand", "<init>", "()V"⟩ "WinterTellers") (List.mem_append_right _ (List.mem_of_getElem? (i := 205) (by decide +kernel)))), va_Nw.of rfl (h (.methodLinkNest "WinterTellers" 55 ⟨"WinterTellers$Past", "<init>", "()V"⟩ "WinterTellers") (List.mem_append_right _ (List.mem_of_getElem? (i := 257) (by decide +kernel)))), va_Nw.of rfl (h (.methodLinkNest "WinterTellers$CoastReader" 11 ⟨"WinterTellers$Coast", "<init>", "()V"⟩ "WinterTellers") (List.mem_append_right _ (List.mem_of_getElem? (i := 64) (by decide +kernel))))⟩
theorem mj_EXof {g : mj_G} {b : Nat} {s : State} (h : ∀ w ∈ lw_tbl, w.before #[Value.ref b] s = true) (hg : (Jvm.Cond.and given_1 narrow_1).before #[Value.ref b] s = true) (hA : ∀ a : Nat, a < s.heap.size → ¬ mj_A g a) : mj_EX g s := ⟨va_Nw.of rfl (h mj_ng1 (List.mem_append_right _ (List.mem_of_getElem? (i := 1107) (by decide +kernel)))), va_Nw.of rfl (h mj_ng2 (List.mem_append_right _ (List.mem_of_getElem? (i := 1109) (by decide +kernel)))), va_Nw.of rfl (h mj_ng3 (List.mem_append_right _ (List.mem_of_getElem? (i := 1111) (by decide +kernel)))), va_Nw.of rfl (h mj_ng4 (List.mem_append_right _ (List.mem_of_getElem? (i := 1106) (by decide +kernel)))), vx_Zqof (h (.laysStatic "java/lang/Throwable" "UNASSIGNED_STACK" "[Ljava/lang/StackTraceElement;") (List.mem_append_right _ (List.mem_of_getElem? (i := 1131) (by decide +kernel)))) (h (.initialized "java/lang/Throwable") (List.mem_append_right _ (List.mem_of_getElem? (i := 16) (by decide +kernel)))) (flat_of_before _ hg _ (by decide +kernel)) hA, vx_Zqof (h (.laysStatic "java/lang/Throwable" "SUPPRESSED_SENTINEL" "Ljava/util/List;") (List.mem_append_right _ (List.mem_of_getElem? (i := 1133) (by decide +kernel)))) (h (.initialized "java/lang/Throwable") (List.mem_append_right _ (List.mem_of_getElem? (i := 16) (by decide +kernel)))) (flat_of_before _ hg _ (by decide +kernel)) hA⟩
theorem mj_stof0 {A : Nat → Prop} {b : Nat} {s : State} (h : ∀ w ∈ lw_tbl, w.before #[Value.ref b] s = true) (hg : (Jvm.Cond.and given_1 narrow_1).before #[Value.ref b] s = true) (hA : ∀ a : Nat, a < s.heap.size → ¬ A a) : ∃ t, va_Z "WinterTellers$CoastReader" "LETTERS" "[C" (.ref t) A s s.heap ∧ va_T .char t 10 (fun j => .int (([98, 109, 97, 111, 107, 99, 119, 108, 107, 114] : List Int32).getD j 0)) A s s.heap := by
  have hs := flat_of_before _ hg
  obtain ⟨t, ht, hT⟩ := va_Tof (tm := .static "WinterTellers$CoastReader" "LETTERS" "[C") (ty := .char) (N := 10) (f := fun j => .int (([98, 109, 97, 111, 107, 99, 119, 108, 107, 114] : List Int32).getD j 0)) (A := A) (by decide) (hs _ (by decide +kernel)) (va_eqt (hs (.eq (.length (.static "WinterTellers$CoastReader" "LETTERS" "[C")) (.int 10)) (by decide +kernel))) (fun j hj => by
    match j, hj with
    | 0, _ => exact va_eqt (hs (.eq (.elem (.static "WinterTellers$CoastReader" "LETTERS" "[C") (.int 0)) (.int 98)) (by decide +kernel))
    | 1, _ => exact va_eqt (hs (.eq (.elem (.static "WinterTellers$CoastReader" "LETTERS" "[C") (.int 1)) (.int 109)) (by decide +kernel))
    | 2, _ => exact va_eqt (hs (.eq (.elem (.static "WinterTellers$CoastReader" "LETTERS" "[C") (.int 2)) (.int 97)) (by decide +kernel))
    | 3, _ => exact va_eqt (hs (.eq (.elem (.static "WinterTellers$CoastReader" "LETTERS" "[C") (.int 3)) (.int 111)) (by decide +kernel))
    | 4, _ => exact va_eqt (hs (.eq (.elem (.static "WinterTellers$CoastReader" "LETTERS" "[C") (.int 4)) (.int 107)) (by decide +kernel))
    | 5, _ => exact va_eqt (hs (.eq (.elem (.static "WinterTellers$CoastReader" "LETTERS" "[C") (.int 5)) (.int 99)) (by decide +kernel))
    | 6, _ => exact va_eqt (hs (.eq (.elem (.static "WinterTellers$CoastReader" "LETTERS" "[C") (.int 6)) (.int 119)) (by decide +kernel))
    | 7, _ => exact va_eqt (hs (.eq (.elem (.static "WinterTellers$CoastReader" "LETTERS" "[C") (.int 7)) (.int 108)) (by decide +kernel))
    | 8, _ => exact va_eqt (hs (.eq (.elem (.static "WinterTellers$CoastReader" "LETTERS" "[C") (.int 8)) (.int 107)) (by decide +kernel))
    | 9, _ => exact va_eqt (hs (.eq (.elem (.static "WinterTellers$CoastReader" "LETTERS" "[C") (.int 9)) (.int 114)) (by decide +kernel))
    | k + 10, h => exact absurd h (by omega)) hA
  exact ⟨t, va_Zref (h (.laysStatic "WinterTellers$CoastReader" "LETTERS" "[C") (List.mem_append_right _ (List.mem_of_getElem? (i := 501) (by decide +kernel)))) (h (.initialized "WinterTellers$CoastReader") (List.mem_append_right _ (List.mem_of_getElem? (i := 3) (by decide +kernel)))) ht hA, hT⟩
theorem mj_stof1 {A : Nat → Prop} {b : Nat} {s : State} (h : ∀ w ∈ lw_tbl, w.before #[Value.ref b] s = true) (hg : (Jvm.Cond.and given_1 narrow_1).before #[Value.ref b] s = true) (hA : ∀ a : Nat, a < s.heap.size → ¬ A a) : ∃ t, va_Z "WinterTellers$CoastReader" "LOWS" "[I" (.ref t) A s s.heap ∧ va_T .int t 10 (fun j => .int (([0, 0, 0, 0, 0, 0, 0, 1, 0, 0] : List Int32).getD j 0)) A s s.heap := by
  have hs := flat_of_before _ hg
  obtain ⟨t, ht, hT⟩ := va_Tof (tm := .static "WinterTellers$CoastReader" "LOWS" "[I") (ty := .int) (N := 10) (f := fun j => .int (([0, 0, 0, 0, 0, 0, 0, 1, 0, 0] : List Int32).getD j 0)) (A := A) (by decide) (hs _ (by decide +kernel)) (va_eqt (hs (.eq (.length (.static "WinterTellers$CoastReader" "LOWS" "[I")) (.int 10)) (by decide +kernel))) (fun j hj => by
    match j, hj with
    | 0, _ => exact va_eqt (hs (.eq (.elem (.static "WinterTellers$CoastReader" "LOWS" "[I") (.int 0)) (.int 0)) (by decide +kernel))
    | 1, _ => exact va_eqt (hs (.eq (.elem (.static "WinterTellers$CoastReader" "LOWS" "[I") (.int 1)) (.int 0)) (by decide +kernel))
    | 2, _ => exact va_eqt (hs (.eq (.elem (.static "WinterTellers$CoastReader" "LOWS" "[I") (.int 2)) (.int 0)) (by decide +kernel))
    | 3, _ => exact va_eqt (hs (.eq (.elem (.static "WinterTellers$CoastReader" "LOWS" "[I") (.int 3)) (.int 0)) (by decide +kernel))
    | 4, _ => exact va_eqt (hs (.eq (.elem (.static "WinterTellers$CoastReader" "LOWS" "[I") (.int 4)) (.int 0)) (by decide +kernel))
    | 5, _ => exact va_eqt (hs (.eq (.elem (.static "WinterTellers$CoastReader" "LOWS" "[I") (.int 5)) (.int 0)) (by decide +kernel))
    | 6, _ => exact va_eqt (hs (.eq (.elem (.static "WinterTellers$CoastReader" "LOWS" "[I") (.int 6)) (.int 0)) (by decide +kernel))
    | 7, _ => exact va_eqt (hs (.eq (.elem (.static "WinterTellers$CoastReader" "LOWS" "[I") (.int 7)) (.int 1)) (by decide +kernel))
    | 8, _ => exact va_eqt (hs (.eq (.elem (.static "WinterTellers$CoastReader" "LOWS" "[I") (.int 8)) (.int 0)) (by decide +kernel))
    | 9, _ => exact va_eqt (hs (.eq (.elem (.static "WinterTellers$CoastReader" "LOWS" "[I") (.int 9)) (.int 0)) (by decide +kernel))
    | k + 10, h => exact absurd h (by omega)) hA
  exact ⟨t, va_Zref (h (.laysStatic "WinterTellers$CoastReader" "LOWS" "[I") (List.mem_append_right _ (List.mem_of_getElem? (i := 503) (by decide +kernel)))) (h (.initialized "WinterTellers$CoastReader") (List.mem_append_right _ (List.mem_of_getElem? (i := 3) (by decide +kernel)))) ht hA, hT⟩
theorem mj_stof2 {A : Nat → Prop} {b : Nat} {s : State} (h : ∀ w ∈ lw_tbl, w.before #[Value.ref b] s = true) (hg : (Jvm.Cond.and given_1 narrow_1).before #[Value.ref b] s = true) (hA : ∀ a : Nat, a < s.heap.size → ¬ A a) : ∃ t, va_Z "WinterTellers$CoastReader" "HIGHS" "[I" (.ref t) A s s.heap ∧ va_T .int t 10 (fun j => .int (([99, 63, 5, 9, 63, 9, 9, 9, 9, 1] : List Int32).getD j 0)) A s s.heap := by
  have hs := flat_of_before _ hg
  obtain ⟨t, ht, hT⟩ := va_Tof (tm := .static "WinterTellers$CoastReader" "HIGHS" "[I") (ty := .int) (N := 10) (f := fun j => .int (([99, 63, 5, 9, 63, 9, 9, 9, 9, 1] : List Int32).getD j 0)) (A := A) (by decide) (hs _ (by decide +kernel)) (va_eqt (hs (.eq (.length (.static "WinterTellers$CoastReader" "HIGHS" "[I")) (.int 10)) (by decide +kernel))) (fun j hj => by
    match j, hj with
    | 0, _ => exact va_eqt (hs (.eq (.elem (.static "WinterTellers$CoastReader" "HIGHS" "[I") (.int 0)) (.int 99)) (by decide +kernel))
    | 1, _ => exact va_eqt (hs (.eq (.elem (.static "WinterTellers$CoastReader" "HIGHS" "[I") (.int 1)) (.int 63)) (by decide +kernel))
    | 2, _ => exact va_eqt (hs (.eq (.elem (.static "WinterTellers$CoastReader" "HIGHS" "[I") (.int 2)) (.int 5)) (by decide +kernel))
    | 3, _ => exact va_eqt (hs (.eq (.elem (.static "WinterTellers$CoastReader" "HIGHS" "[I") (.int 3)) (.int 9)) (by decide +kernel))
    | 4, _ => exact va_eqt (hs (.eq (.elem (.static "WinterTellers$CoastReader" "HIGHS" "[I") (.int 4)) (.int 63)) (by decide +kernel))
    | 5, _ => exact va_eqt (hs (.eq (.elem (.static "WinterTellers$CoastReader" "HIGHS" "[I") (.int 5)) (.int 9)) (by decide +kernel))
    | 6, _ => exact va_eqt (hs (.eq (.elem (.static "WinterTellers$CoastReader" "HIGHS" "[I") (.int 6)) (.int 9)) (by decide +kernel))
    | 7, _ => exact va_eqt (hs (.eq (.elem (.static "WinterTellers$CoastReader" "HIGHS" "[I") (.int 7)) (.int 9)) (by decide +kernel))
    | 8, _ => exact va_eqt (hs (.eq (.elem (.static "WinterTellers$CoastReader" "HIGHS" "[I") (.int 8)) (.int 9)) (by decide +kernel))
    | 9, _ => exact va_eqt (hs (.eq (.elem (.static "WinterTellers$CoastReader" "HIGHS" "[I") (.int 9)) (.int 1)) (by decide +kernel))
    | k + 10, h => exact absurd h (by omega)) hA
  exact ⟨t, va_Zref (h (.laysStatic "WinterTellers$CoastReader" "HIGHS" "[I") (List.mem_append_right _ (List.mem_of_getElem? (i := 505) (by decide +kernel)))) (h (.initialized "WinterTellers$CoastReader") (List.mem_append_right _ (List.mem_of_getElem? (i := 3) (by decide +kernel)))) ht hA, hT⟩
theorem mj_stof3 {A : Nat → Prop} {b : Nat} {s : State} (h : ∀ w ∈ lw_tbl, w.before #[Value.ref b] s = true) (hg : (Jvm.Cond.and given_1 narrow_1).before #[Value.ref b] s = true) (hA : ∀ a : Nat, a < s.heap.size → ¬ A a) : ∃ t, va_Z "WinterTellers$CoastReader" "WITHOUT" "[I" (.ref t) A s s.heap ∧ va_T .int t 10 (fun j => .int (([20, 63, 0, 1, 0, 3, 2, 4, 2, 0] : List Int32).getD j 0)) A s s.heap := by
  have hs := flat_of_before _ hg
  obtain ⟨t, ht, hT⟩ := va_Tof (tm := .static "WinterTellers$CoastReader" "WITHOUT" "[I") (ty := .int) (N := 10) (f := fun j => .int (([20, 63, 0, 1, 0, 3, 2, 4, 2, 0] : List Int32).getD j 0)) (A := A) (by decide) (hs _ (by decide +kernel)) (va_eqt (hs (.eq (.length (.static "WinterTellers$CoastReader" "WITHOUT" "[I")) (.int 10)) (by decide +kernel))) (fun j hj => by
    match j, hj with
    | 0, _ => exact va_eqt (hs (.eq (.elem (.static "WinterTellers$CoastReader" "WITHOUT" "[I") (.int 0)) (.int 20)) (by decide +kernel))
    | 1, _ => exact va_eqt (hs (.eq (.elem (.static "WinterTellers$CoastReader" "WITHOUT" "[I") (.int 1)) (.int 63)) (by decide +kernel))
    | 2, _ => exact va_eqt (hs (.eq (.elem (.static "WinterTellers$CoastReader" "WITHOUT" "[I") (.int 2)) (.int 0)) (by decide +kernel))
    | 3, _ => exact va_eqt (hs (.eq (.elem (.static "WinterTellers$CoastReader" "WITHOUT" "[I") (.int 3)) (.int 1)) (by decide +kernel))
    | 4, _ => exact va_eqt (hs (.eq (.elem (.static "WinterTellers$CoastReader" "WITHOUT" "[I") (.int 4)) (.int 0)) (by decide +kernel))
    | 5, _ => exact va_eqt (hs (.eq (.elem (.static "WinterTellers$CoastReader" "WITHOUT" "[I") (.int 5)) (.int 3)) (by decide +kernel))
    | 6, _ => exact va_eqt (hs (.eq (.elem (.static "WinterTellers$CoastReader" "WITHOUT" "[I") (.int 6)) (.int 2)) (by decide +kernel))
    | 7, _ => exact va_eqt (hs (.eq (.elem (.static "WinterTellers$CoastReader" "WITHOUT" "[I") (.int 7)) (.int 4)) (by decide +kernel))
    | 8, _ => exact va_eqt (hs (.eq (.elem (.static "WinterTellers$CoastReader" "WITHOUT" "[I") (.int 8)) (.int 2)) (by decide +kernel))
    | 9, _ => exact va_eqt (hs (.eq (.elem (.static "WinterTellers$CoastReader" "WITHOUT" "[I") (.int 9)) (.int 0)) (by decide +kernel))
    | k + 10, h => exact absurd h (by omega)) hA
  exact ⟨t, va_Zref (h (.laysStatic "WinterTellers$CoastReader" "WITHOUT" "[I") (List.mem_append_right _ (List.mem_of_getElem? (i := 472) (by decide +kernel)))) (h (.initialized "WinterTellers$CoastReader") (List.mem_append_right _ (List.mem_of_getElem? (i := 3) (by decide +kernel)))) ht hA, hT⟩
theorem mj_stof4 {A : Nat → Prop} {b : Nat} {s : State} (h : ∀ w ∈ lw_tbl, w.before #[Value.ref b] s = true) (hg : (Jvm.Cond.and given_1 narrow_1).before #[Value.ref b] s = true) (hA : ∀ a : Nat, a < s.heap.size → ¬ A a) : ∃ t, va_Z "WinterTellers$LawReader" "LETTERS" "[C" (.ref t) A s s.heap ∧ va_T .char t 6 (fun j => .int (([108, 107, 99, 110, 119, 114] : List Int32).getD j 0)) A s s.heap := by
  have hs := flat_of_before _ hg
  obtain ⟨t, ht, hT⟩ := va_Tof (tm := .static "WinterTellers$LawReader" "LETTERS" "[C") (ty := .char) (N := 6) (f := fun j => .int (([108, 107, 99, 110, 119, 114] : List Int32).getD j 0)) (A := A) (by decide) (hs _ (by decide +kernel)) (va_eqt (hs (.eq (.length (.static "WinterTellers$LawReader" "LETTERS" "[C")) (.int 6)) (by decide +kernel))) (fun j hj => by
    match j, hj with
    | 0, _ => exact va_eqt (hs (.eq (.elem (.static "WinterTellers$LawReader" "LETTERS" "[C") (.int 0)) (.int 108)) (by decide +kernel))
    | 1, _ => exact va_eqt (hs (.eq (.elem (.static "WinterTellers$LawReader" "LETTERS" "[C") (.int 1)) (.int 107)) (by decide +kernel))
    | 2, _ => exact va_eqt (hs (.eq (.elem (.static "WinterTellers$LawReader" "LETTERS" "[C") (.int 2)) (.int 99)) (by decide +kernel))
    | 3, _ => exact va_eqt (hs (.eq (.elem (.static "WinterTellers$LawReader" "LETTERS" "[C") (.int 3)) (.int 110)) (by decide +kernel))
    | 4, _ => exact va_eqt (hs (.eq (.elem (.static "WinterTellers$LawReader" "LETTERS" "[C") (.int 4)) (.int 119)) (by decide +kernel))
    | 5, _ => exact va_eqt (hs (.eq (.elem (.static "WinterTellers$LawReader" "LETTERS" "[C") (.int 5)) (.int 114)) (by decide +kernel))
    | k + 6, h => exact absurd h (by omega)) hA
  exact ⟨t, va_Zref (h (.laysStatic "WinterTellers$LawReader" "LETTERS" "[C") (List.mem_append_right _ (List.mem_of_getElem? (i := 577) (by decide +kernel)))) (h (.initialized "WinterTellers$LawReader") (List.mem_append_right _ (List.mem_of_getElem? (i := 5) (by decide +kernel)))) ht hA, hT⟩
theorem mj_hst {l : Launch} (h : l.flags = flags0) : l.stackTraces = false := by unfold Launch.stackTraces; rw [h]; decide +kernel
set_option maxHeartbeats 4000000 in
set_option maxRecDepth 100000 in
/-- from the entry, over the pure side: N, Inv -/
theorem whole_from {N : Nat} {Inv : mj_M → Prop} (hOK : mj_OK N Inv) (hI0 : Inv mj_M0) {p : Program} {e : Env} {s : State} {m : MethodId} {below : List Frame} {meth : Method} {c : Code} (l : Launch) (hflags : l.flags = flags0) {b L : Nat} {xs : Nat → Int32} (hL : L ≤ 3072) (C0 : lw_At p s m meth c b L xs) : W p l e room_1 s m #[Value.ref b] below meth c s.heap [] 0 0 (lw_Z below #[Value.ref b] s) (entryFrame m ([Value.ref b] : List Value).toArray 7) := by
  obtain ⟨hx, hb, hr, hml, hown, htl, hX, hbl, hlocks, hgv⟩ := id C0
  have hT := mj_Zt C0
  have hNL := mj_NLof htl
  have hA : ∀ q : Nat, s.heap.size ≤ q → (fun q : Nat => s.heap.size ≤ q) q := fun _ h => h
  have hA2 : ∀ a : Nat, a < s.heap.size → ¬ (fun q : Nat => s.heap.size ≤ q) a := fun a h => Nat.not_le.mpr h
  obtain ⟨k0, iS0, hKn0⟩ := u_known (C := mj_R0) (T := mj_T0) (N := 12) (n := 12) hT mj_i0 (htl _ qI_0)
  obtain ⟨k1, iS1, hKn1⟩ := u_known (C := mj_R1) (T := mj_T1) (N := 4) (n := 4) hT mj_i1 (htl _ qI_1)
  obtain ⟨k2, iS2, hKn2⟩ := u_known (C := mj_R2) (T := mj_T2) (N := 4) (n := 4) hT mj_i2 (htl _ qI_2)
  obtain ⟨k3, iS3, hKn3⟩ := u_known (C := mj_R3) (T := mj_T3) (N := 6) (n := 6) hT mj_i3 (htl _ qI_3)
  obtain ⟨k4, iS4, hKn4⟩ := u_known (C := mj_R4) (T := mj_T4) (N := 3) (n := 3) hT mj_i4 (htl _ qI_4)
  obtain ⟨k5, iS5, hKn5⟩ := u_known (C := mj_R5) (T := mj_T5) (N := 6) (n := 6) hT mj_i5 (htl _ qI_5)
  obtain ⟨k6, iS6, hKn6⟩ := u_known (C := mj_R6) (T := mj_T6) (N := 6) (n := 6) hT mj_i6 (htl _ qI_6)
  obtain ⟨k7, iS7, hKn7⟩ := u_known (C := mj_R7) (T := mj_T7) (N := 14) (n := 14) hT mj_i7 (htl _ qI_7)
  obtain ⟨k8, iS8, hKn8⟩ := u_known (C := mj_R8) (T := mj_T8) (N := 10) (n := 10) hT mj_i8 (htl _ qI_8)
  obtain ⟨k9, iS9, hKn9⟩ := u_known (C := mj_R9) (T := mj_T9) (N := 3) (n := 3) hT mj_i9 (htl _ qI_9)
  obtain ⟨k10, iS10, hKn10⟩ := u_known (C := mj_R10) (T := mj_T10) (N := 4) (n := 4) hT mj_i10 (htl _ qI_10)
  obtain ⟨k11, iS11, hKn11⟩ := u_known (C := mj_R11) (T := mj_T11) (N := 13) (n := 13) hT mj_i11 (htl _ qI_11)
  obtain ⟨k12, iS12, hKn12⟩ := u_known (C := mj_R12) (T := mj_T12) (N := 45) (n := 45) hT mj_i12 (htl _ qI_12)
  obtain ⟨s0, hZ0, hS0⟩ := mj_stof0 (A := fun q : Nat => s.heap.size ≤ q) htl hgv hA2
  obtain ⟨s1, hZ1, hS1⟩ := mj_stof1 (A := fun q : Nat => s.heap.size ≤ q) htl hgv hA2
  obtain ⟨s2, hZ2, hS2⟩ := mj_stof2 (A := fun q : Nat => s.heap.size ≤ q) htl hgv hA2
  obtain ⟨s3, hZ3, hS3⟩ := mj_stof3 (A := fun q : Nat => s.heap.size ≤ q) htl hgv hA2
  obtain ⟨s4, hZ4, hS4⟩ := mj_stof4 (A := fun q : Nat => s.heap.size ≤ q) htl hgv hA2
  obtain ⟨dC, dI, hKc⟩ : ∃ (dC : Nat → ClassId) (dI : Nat → Nat → Nat), ∀ (k : Nat) (q : vw_C), mj_cl[k]? = some q → u_Kn s q.1 q.2.1 q.2.2 (dC k) (dI k) := by
    refine ⟨fun k => ([k0, k1, k2, k3, k4, k5, k6, k7, k8, k9, k10, k11, k12] : List ClassId).getD k 0, fun k => ([iS0, iS1, iS2, iS3, iS4, iS5, iS6, iS7, iS8, iS9, iS10, iS11, iS12] : List (Nat → Nat)).getD k id, ?_⟩
    intro k q hq
    match k, hq with
    | 0, hq => cases hq; exact hKn0
    | 1, hq => cases hq; exact hKn1
    | 2, hq => cases hq; exact hKn2
    | 3, hq => cases hq; exact hKn3
    | 4, hq => cases hq; exact hKn4
    | 5, hq => cases hq; exact hKn5
    | 6, hq => cases hq; exact hKn6
    | 7, hq => cases hq; exact hKn7
    | 8, hq => cases hq; exact hKn8
    | 9, hq => cases hq; exact hKn9
    | 10, hq => cases hq; exact hKn10
    | 11, hq => cases hq; exact hKn11
    | 12, hq => cases hq; exact hKn12
    | k + 13, hq => cases hq
  have hS : va_S (fun q : Nat => s.heap.size ≤ q) s.heap s.heap [] := va_S.rf
  have hK : va_K (dC, dI) mj_cl [] s := ⟨hKc, fun k q h => by simp at h⟩
  have hP : va_P (dC, dI) mj_cl [] s.heap := fun k q h => by simp at h
  have hD : va_D (fun q : Nat => s.heap.size ≤ q) [] := ⟨fun i j p q h => by simp at h, fun k q h => by simp at h⟩
  have hl := lv_entry ([.ref b]) (n := 7) (Nat.le_of_ble_eq_true rfl)
  rw [lg_entry_eq]
  generalize (lg_sl ([.ref b]) ++ List.replicate (7 - (lg_sl ([.ref b])).length) Slot.unset).toArray = ls at hl ⊢
  have hl : lv_has ls 7 [(0, .ref b)] := hl
  refine va_new (ci := 11) (fs := [.null, .null, .null, .null, .null, .null, .null, .null, .null, .null, .null, .null, .int 0]) (C := mj_R11) (T := mj_T11) (N := 13) hx hb hT mj_i11 mj_t11 mj_y11 hown (hT _ qk_L_8) (htl _ qI_11) (hT _ qn_W) hK hP hD hS hA rfl mj_z11 (Nat.le_of_ble_eq_true rfl) (Nat.le_of_ble_eq_true rfl) dl_0 (fun qx H hP hD hS => ?_)
  have hP : va_P (dC, dI) mj_cl ([(qx, .inr (11, [.null, .null, .null, .null, .null, .null, .null, .null, .null, .null, .null, .null, .int 0]))]) H := hP
  have hD : va_D (fun q : Nat => s.heap.size ≤ q) ([(qx, .inr (11, [.null, .null, .null, .null, .null, .null, .null, .null, .null, .null, .null, .null, .int 0]))]) := hD
  refine W.widen (k := 1) (n := 13) (Nat.le_of_ble_eq_true rfl) (Nat.le_of_ble_eq_true rfl) ?_
  refine lv_dup hx hb dl_3 rfl ?_
  have hPc := hP.sub (ws' := [(qx, .inr (11, [.null, .null, .null, .null, .null, .null, .null, .null, .null, .null, .null, .null, .int 0]))]) [0] rfl
  have hDc := hD.sub (ws' := [(qx, .inr (11, [.null, .null, .null, .null, .null, .null, .null, .null, .null, .null, .null, .null, .int 0]))]) [0] (by decide) rfl
  have hKc := hK.sub (tys' := []) [] rfl
  have hFc := va_free (wc := [(qx, .inr (11, [.null, .null, .null, .null, .null, .null, .null, .null, .null, .null, .null, .null, .int 0]))]) hD hS hA [0] rfl
  refine va_callv (va_runI (As := []) (rest := [.ref qx]) ⟨hx, hb, hml, hown, hT⟩ (I_W l dC dI qx H.size) ⟨⟨rfl, rfl, Nat.le_of_ble_eq_true rfl, Nat.le_of_ble_eq_true rfl, mj_good hT qe_W, List.mem_cons_self, hT _ qe_W, hT _ qn_W, ⟨by decide +kernel, by decide +kernel⟩, fun sig h => mj_pl (n := 0) (by decide +kernel) h, hT _ qw_L_15⟩, rfl, hT _ qj_W⟩ ⟨mj_blI, fun U hU hW => ⟨rfl, by rw [hU], by rw [hU]; exact hPc, va_K.moved hW.alike hKc, hDc.weaken (fun _ _ _ _ => trivial), mj_NLw hW hNL⟩⟩ rfl rfl hl.1 rfl (lv_room (Nat.le_of_ble_eq_true rfl)) dl_4 ⟨Nat.le_of_ble_eq_true rfl, Nat.le_of_ble_eq_true rfl⟩) hS (fun q _ h => hFc q h) hFc (fun ux t H1 locs ht hvm _ hB hz1 hk1 hS => ?_)
  obtain ⟨hP1, hK1, hD1⟩ := hB
  rw [ht] at hP1
  have hK1 := va_K.moved hvm.symm hK1
  obtain ⟨hP, hD⟩ := va_join (wr := []) (w1 := W_W qx ux) hP hD [0] (List.range 0) rfl rfl (by decide) (by decide) hk1 hFc hP1 hD1
  have hK := hK.app hK1
  generalize H1 = H at hP hS ⊢
  have hP : va_P (dC, dI) mj_cl (W_W qx ux) H := hP
  have hD : va_D (fun q : Nat => s.heap.size ≤ q) (W_W qx ux) := hD
  have hK : va_K (dC, dI) mj_cl (Y_W ux) s := hK
  refine W.widen (k := 48) (n := 4515) (Nat.le_of_ble_eq_true rfl) (Nat.le_of_ble_eq_true rfl) ?_
  refine lv_astore_n (lv' := [(1, .ref qx), (0, .ref b)]) hx hb dl_7 rfl hl (by decide) rfl (fun ls hl => ?_)
  refine va_new (ci := 12) (fs := [.int 0, .null, .int 0, .int 0, .int 0, .int 0, .null, .null, .null, .null, .null, .null, .null, .int 0, .int 0, .null, .null, .null, .null, .null, .int 0, .int 0, .null, .null, .null, .int 0, .int 0, .null, .null, .int 0, .int 0, .null, .int 0, .long 0, .null, .int 0, .int 0, .null, .null, .null, .int 0, .int 0, .int 0, .null, .int 0]) (C := mj_R12) (T := mj_T12) (N := 45) hx hb hT mj_i12 mj_t12 mj_y12 hown (hT _ qk_L_16) (htl _ qI_12) (hT _ qn_M) hK hP hD hS hA rfl mj_z12 (Nat.le_of_ble_eq_true rfl) (Nat.le_of_ble_eq_true rfl) dl_8 (fun qm H hP hD hS => ?_)
  have hP : va_P (dC, dI) mj_cl (W_W qx ux ++ [(qm, .inr (12, [.int 0, .null, .int 0, .int 0, .int 0, .int 0, .null, .null, .null, .null, .null, .null, .null, .int 0, .int 0, .null, .null, .null, .null, .null, .int 0, .int 0, .null, .null, .null, .int 0, .int 0, .null, .null, .int 0, .int 0, .null, .int 0, .long 0, .null, .int 0, .int 0, .null, .null, .null, .int 0, .int 0, .int 0, .null, .int 0]))]) H := hP
  have hD : va_D (fun q : Nat => s.heap.size ≤ q) (W_W qx ux ++ [(qm, .inr (12, [.int 0, .null, .int 0, .int 0, .int 0, .int 0, .null, .null, .null, .null, .null, .null, .null, .int 0, .int 0, .null, .null, .null, .null, .null, .int 0, .int 0, .null, .null, .null, .int 0, .int 0, .null, .null, .int 0, .int 0, .null, .int 0, .long 0, .null, .int 0, .int 0, .null, .null, .null, .int 0, .int 0, .int 0, .null, .int 0]))]) := hD
  refine W.widen (k := 49) (n := 4560) (Nat.le_of_ble_eq_true rfl) (Nat.le_of_ble_eq_true rfl) ?_
  refine lv_dup hx hb dl_11 rfl ?_
  have hPc := hP.sub (ws' := [(qm, .inr (12, [.int 0, .null, .int 0, .int 0, .int 0, .int 0, .null, .null, .null, .null, .null, .null, .null, .int 0, .int 0, .null, .null, .null, .null, .null, .int 0, .int 0, .null, .null, .null, .int 0, .int 0, .null, .null, .int 0, .int 0, .null, .int 0, .long 0, .null, .int 0, .int 0, .null, .null, .null, .int 0, .int 0, .int 0, .null, .int 0]))]) [48] rfl
  have hDc := hD.sub (ws' := [(qm, .inr (12, [.int 0, .null, .int 0, .int 0, .int 0, .int 0, .null, .null, .null, .null, .null, .null, .null, .int 0, .int 0, .null, .null, .null, .null, .null, .int 0, .int 0, .null, .null, .null, .int 0, .int 0, .null, .null, .int 0, .int 0, .null, .int 0, .long 0, .null, .int 0, .int 0, .null, .null, .null, .int 0, .int 0, .int 0, .null, .int 0]))]) [48] (by decide) rfl
  have hKc := hK.sub (tys' := []) [] rfl
  have hFc := va_free (wc := [(qm, .inr (12, [.int 0, .null, .int 0, .int 0, .int 0, .int 0, .null, .null, .null, .null, .null, .null, .null, .int 0, .int 0, .null, .null, .null, .null, .null, .int 0, .int 0, .null, .null, .null, .int 0, .int 0, .null, .null, .int 0, .int 0, .null, .int 0, .long 0, .null, .int 0, .int 0, .null, .null, .null, .int 0, .int 0, .int 0, .null, .int 0]))]) hD hS hA [48] rfl
  refine va_callv (va_runI (As := []) (rest := [.ref qm]) ⟨hx, hb, hml, hown, hT⟩ (I_M l dC dI qm H.size) ⟨⟨rfl, rfl, Nat.le_of_ble_eq_true rfl, Nat.le_of_ble_eq_true rfl, mj_good hT qe_M, List.mem_cons_self, hT _ qe_M, hT _ qn_M, ⟨by decide +kernel, by decide +kernel⟩, fun sig h => mj_pl (n := 0) (by decide +kernel) h, hT _ qw_L_18⟩, rfl, hT _ qj_M⟩ ⟨mj_blI, fun U hU hW => ⟨rfl, by rw [hU], by rw [hU]; exact hPc, va_K.moved hW.alike hKc, hDc.weaken (fun _ _ _ _ => trivial), mj_NLw hW hNL⟩⟩ rfl rfl hl.1 rfl (lv_room (Nat.le_of_ble_eq_true rfl)) dl_12 ⟨Nat.le_of_ble_eq_true rfl, Nat.le_of_ble_eq_true rfl⟩) hS (fun q _ h => hFc q h) hFc (fun um t H1 locs ht hvm _ hB hz1 hk1 hS => ?_)
  obtain ⟨hP1, hK1, hD1⟩ := hB
  rw [ht] at hP1
  have hK1 := va_K.moved hvm.symm hK1
  obtain ⟨hP, hD⟩ := va_join (wr := W_W qx ux) (w1 := W_M qm um) hP hD [48] (List.range 48) rfl rfl (by decide) (by decide) hk1 hFc hP1 hD1
  have hK := hK.app hK1
  generalize H1 = H at hP hS ⊢
  have hP : va_P (dC, dI) mj_cl (W_W qx ux ++ W_M qm um) H := hP
  have hD : va_D (fun q : Nat => s.heap.size ≤ q) (W_W qx ux ++ W_M qm um) := hD
  have hK : va_K (dC, dI) mj_cl (Y_W ux ++ Y_M um) s := hK
  refine W.widen (k := 73) (n := 22073) (Nat.le_of_ble_eq_true rfl) (Nat.le_of_ble_eq_true rfl) ?_
  refine lv_astore_n (lv' := [(2, .ref qm), (1, .ref qx), (0, .ref b)]) hx hb dl_15 rfl hl (by decide) rfl (fun ls hl => ?_)
  refine lv_iconst (v := 1) hx hb dl_16 (by decide) ?_
  refine va_newa (atype := .long) (ty := .long) (a0 := (1, .inr (.inl (fun _ => 0)))) (N' := 1) hx hb (hT _ qa_long) rfl hK hP hD hS hA (fun _ => rfl) (by decide) (by decide) (Nat.le_of_ble_eq_true rfl) (Nat.le_of_ble_eq_true rfl) (Nat.le_of_ble_eq_true rfl) dl_17 (fun qo ao H hK hP hD hS => ?_)
  refine W.widen (k := 80) (n := 30000) (Nat.le_of_ble_eq_true rfl) (Nat.le_of_ble_eq_true rfl) ?_
  refine lv_astore_n (lv' := [(3, .ref qo), (2, .ref qm), (1, .ref qx), (0, .ref b)]) hx hb dl_19 rfl hl (by decide) rfl (fun ls hl => ?_)
  refine lv_iconst (v := 0) hx hb dl_20 (by decide) ?_
  refine lv_istore (lv' := [(4, .int 0), (3, .ref qo), (2, .ref qm), (1, .ref qx), (0, .ref b)]) hx hb dl_21 hl (by decide) rfl (fun ls hl => ?_)
  have hP : va_P (dC, dI) mj_cl (mj_ws qx qm qo ux um ao) H := hP
  have hD : va_D (fun q : Nat => s.heap.size ≤ q) (mj_ws qx qm qo ux um ao) := hD
  have hK : va_K (dC, dI) mj_cl (mj_ts ux um ao) s := hK
  obtain ⟨g, hg⟩ : ∃ g : mj_G, g = (l, (dC, dI), mj_ad qx qm qo ux um s0 s1 s2 s3 s4, mj_ca ux um ao, s.heap.size) := ⟨_, rfl⟩
  have hP2 : va_P (mj_D g) mj_cl (mj_w g mj_M0) H := mj_worldP hg hP
  have hD2 : va_D (mj_A g) (mj_w g mj_M0) := by have h9 := mj_worldD hg hD; rw [show mj_A g = (fun q : Nat => s.heap.size ≤ q) by rw [hg]; rfl]; exact h9
  have hK2 : va_K (mj_D g) mj_cl (mj_ty g) s := mj_worldK hg hK
  have hST : mj_ST g s s.heap := by
    rw [hg]
    intro i q hi
    match i, hi with
    | 0, hi => cases hi; exact ⟨hZ0, hS0⟩
    | 1, hi => cases hi; exact ⟨hZ1, hS1⟩
    | 2, hi => cases hi; exact ⟨hZ2, hS2⟩
    | 3, hi => cases hi; exact ⟨hZ3, hS3⟩
    | 4, hi => cases hi; exact ⟨hZ4, hS4⟩
    | k + 5, hi => cases hi
  have hEX : mj_EX g s := mj_EXof htl hgv (by rw [hg]; exact hA2)
  have e0 : mj_d g 0 = qx := by rw [hg]; rfl
  have e48 : mj_d g 48 = qm := by rw [hg]; rfl
  have e73 : mj_d g 73 = qo := by rw [hg]; rfl
  have el : mj_l g = l := by rw [hg]
  have eB : g.2.2.2.2 = s.heap.size := by rw [hg]
  have hS2 : va_S (mj_A g) s.heap H locs := by rw [hg]; exact hS
  have hst : (mj_l g).stackTraces = false := by rw [el]; exact mj_hst hflags
  have fin := law_loop (g := g) (b := b) (Lz := L) (xs := xs) hst hOK hL 513 0 0 mj_M0 80 30000 (by omega) (by omega) rfl (by omega) (by omega) hI0 p e s m below meth c C0 eB hK2 hST hEX H _ ls hP2 hD2 hS2 (by rw [e0, e48, e73]; exact lv_sub hl [0, 4, 3, 2, 1] rfl)
  rw [el] at fin
  exact fin
