/-! ===== constructors ===== -/
abbrev mj_U : Type := (Nat → Nat) × (Nat → ClassId)
def mj_NL (U : State) : Prop := va_Nw (.methodLinkNest "WinterTellers" 11 ⟨"WinterTellers$Tape", "<init>", "()V"⟩ "WinterTellers") U ∧ va_Nw (.methodLinkNest "WinterTellers" 34 ⟨"WinterTellers$Laws", "<init>", "()V"⟩ "WinterTellers") U ∧ va_Nw (.methodLinkNest "WinterTellers" 41 ⟨"WinterTellers$Coast", "<init>", "()V"⟩ "WinterTellers") U ∧ va_Nw (.methodLinkNest "WinterTellers" 48 ⟨"WinterTellers$Stand", "<init>", "()V"⟩ "WinterTellers") U ∧ va_Nw (.methodLinkNest "WinterTellers" 55 ⟨"WinterTellers$Past", "<init>", "()V"⟩ "WinterTellers") U ∧ va_Nw (.methodLinkNest "WinterTellers$CoastReader" 11 ⟨"WinterTellers$Coast", "<init>", "()V"⟩ "WinterTellers") U
theorem mj_NLw {s U : State} (hW : s.WarmedH U.vm) (h : mj_NL s) : mj_NL U := ⟨va_Nw.warmM hW h.1, va_Nw.warmM hW h.2.1, va_Nw.warmM hW h.2.2.1, va_Nw.warmM hW h.2.2.2.1, va_Nw.warmM hW h.2.2.2.2.1, va_Nw.warmM hW h.2.2.2.2.2⟩
theorem mj_NLs {s U : State} (hv : s.vm = U.vm) (h : mj_NL s) : mj_NL U := ⟨va_Nw.same rfl hv h.1, va_Nw.same rfl hv h.2.1, va_Nw.same rfl hv h.2.2.1, va_Nw.same rfl hv h.2.2.2.1, va_Nw.same rfl hv h.2.2.2.2.1, va_Nw.same rfl hv h.2.2.2.2.2⟩
theorem mj_NL0 {s : State} (h : mj_NL s) : va_Nw (.methodLinkNest "WinterTellers" 11 ⟨"WinterTellers$Tape", "<init>", "()V"⟩ "WinterTellers") s := h.1
theorem mj_NL1 {s : State} (h : mj_NL s) : va_Nw (.methodLinkNest "WinterTellers" 34 ⟨"WinterTellers$Laws", "<init>", "()V"⟩ "WinterTellers") s := h.2.1
theorem mj_NL2 {s : State} (h : mj_NL s) : va_Nw (.methodLinkNest "WinterTellers" 41 ⟨"WinterTellers$Coast", "<init>", "()V"⟩ "WinterTellers") s := h.2.2.1
theorem mj_NL3 {s : State} (h : mj_NL s) : va_Nw (.methodLinkNest "WinterTellers" 48 ⟨"WinterTellers$Stand", "<init>", "()V"⟩ "WinterTellers") s := h.2.2.2.1
theorem mj_NL4 {s : State} (h : mj_NL s) : va_Nw (.methodLinkNest "WinterTellers" 55 ⟨"WinterTellers$Past", "<init>", "()V"⟩ "WinterTellers") s := h.2.2.2.2.1
theorem mj_NL5 {s : State} (h : mj_NL s) : va_Nw (.methodLinkNest "WinterTellers$CoastReader" 11 ⟨"WinterTellers$Coast", "<init>", "()V"⟩ "WinterTellers") s := h.2.2.2.2.2
theorem mj_pl {y : MethodName} {n : Nat} (hd : (parseMethodDescriptor y.desc).map (fun d => d.parameters.length) = some n) {sig : MethodDescriptor} (h : parseMethodDescriptor y.desc = some sig) : n = sig.parameters.length := by rw [h] at hd; exact (Option.some.inj hd).symm
theorem mj_blI {dC : Nat → ClassId} {dI : Nat → Nat → Nat} {as : List Value} {sz : Nat} {ws : va_W} : FrameBlind (va_Pc as (fun U => U.heap.size = sz ∧ va_P (dC, dI) mj_cl ws U.heap ∧ va_K (dC, dI) mj_cl [] U ∧ va_D (fun _ => True) ws ∧ mj_NL U)) := fun a U gf mk q => by
  obtain ⟨q0, q1, qP, qK, qD, qN⟩ := q
  exact ⟨q0, q1, qP, va_K.moved (u := U) (U := U.calling gf mk a) (Vm.Alike.refl U.vm) qK, qD, mj_NLs (s := U) (U := U.calling gf mk a) rfl qN⟩
theorem mj_z0 : ∀ j, j < 12 → defaultValue (mj_t0 j) = vp_V [.int 0, .int 0, .int 0, .int 0, .int 0, .int 0, .null, .null, .null, .null, .null, .null] j := by decide +kernel
theorem mj_z1 : ∀ j, j < 4 → defaultValue (mj_t1 j) = vp_V [.null, .null, .null, .int 0] j := by decide +kernel
theorem mj_z2 : ∀ j, j < 4 → defaultValue (mj_t2 j) = vp_V [.null, .null, .null, .null] j := by decide +kernel
theorem mj_z3 : ∀ j, j < 6 → defaultValue (mj_t3 j) = vp_V [.int 0, .null, .null, .null, .null, .null] j := by decide +kernel
theorem mj_z4 : ∀ j, j < 3 → defaultValue (mj_t4 j) = vp_V [.null, .int 0, .null] j := by decide +kernel
theorem mj_z5 : ∀ j, j < 6 → defaultValue (mj_t5 j) = vp_V [.int 0, .int 0, .null, .null, .null, .null] j := by decide +kernel
theorem mj_z6 : ∀ j, j < 6 → defaultValue (mj_t6 j) = vp_V [.int 0, .int 0, .int 0, .null, .null, .null] j := by decide +kernel
theorem mj_z7 : ∀ j, j < 14 → defaultValue (mj_t7 j) = vp_V [.int 0, .int 0, .int 0, .int 0, .int 0, .int 0, .int 0, .null, .null, .null, .null, .null, .null, .null] j := by decide +kernel
theorem mj_z8 : ∀ j, j < 10 → defaultValue (mj_t8 j) = vp_V [.int 0, .int 0, .int 0, .int 0, .int 0, .int 0, .int 0, .null, .null, .null] j := by decide +kernel
theorem mj_z9 : ∀ j, j < 3 → defaultValue (mj_t9 j) = vp_V [.null, .null, .null] j := by decide +kernel
theorem mj_z10 : ∀ j, j < 4 → defaultValue (mj_t10 j) = vp_V [.null, .int 0, .int 0, .int 0] j := by decide +kernel
theorem mj_z11 : ∀ j, j < 13 → defaultValue (mj_t11 j) = vp_V [.null, .null, .null, .null, .null, .null, .null, .null, .null, .null, .null, .null, .int 0] j := by decide +kernel
theorem mj_z12 : ∀ j, j < 45 → defaultValue (mj_t12 j) = vp_V [.int 0, .null, .int 0, .int 0, .int 0, .int 0, .null, .null, .null, .null, .null, .null, .null, .int 0, .int 0, .null, .null, .null, .null, .null, .int 0, .int 0, .null, .null, .null, .int 0, .int 0, .null, .null, .int 0, .int 0, .null, .int 0, .long 0, .null, .int 0, .int 0, .null, .null, .null, .int 0, .int 0, .int 0, .null, .int 0] j := by decide +kernel
abbrev c_Tape_init : ByteArray := prog_12_method_1_code
def y_Tape_init : MethodName := ⟨"WinterTellers$Tape", "<init>", "()V"⟩
abbrev c_Coast_init : ByteArray := prog_2_method_1_code
def y_Coast_init : MethodName := ⟨"WinterTellers$Coast", "<init>", "()V"⟩
abbrev c_CoastReader_init : ByteArray := prog_3_method_1_code
def y_CoastReader_init : MethodName := ⟨"WinterTellers$CoastReader", "<init>", "(LWinterTellers$Tape;)V"⟩
abbrev c_LawReader_init : ByteArray := prog_6_method_1_code
def y_LawReader_init : MethodName := ⟨"WinterTellers$LawReader", "<init>", "(LWinterTellers$Tape;)V"⟩
abbrev c_Laws_init : ByteArray := prog_7_method_1_code
def y_Laws_init : MethodName := ⟨"WinterTellers$Laws", "<init>", "()V"⟩
abbrev c_Stand_init : ByteArray := prog_10_method_1_code
def y_Stand_init : MethodName := ⟨"WinterTellers$Stand", "<init>", "()V"⟩
abbrev c_Past_init : ByteArray := prog_8_method_1_code
def y_Past_init : MethodName := ⟨"WinterTellers$Past", "<init>", "()V"⟩
abbrev c_Stays_init : ByteArray := prog_11_method_1_code
def y_Stays_init : MethodName := ⟨"WinterTellers$Stays", "<init>", "(LWinterTellers$Coast;LWinterTellers$Stand;LWinterTellers$Laws;)V"⟩
abbrev c_Guess_init : ByteArray := prog_5_method_1_code
def y_Guess_init : MethodName := ⟨"WinterTellers$Guess", "<init>", "(LWinterTellers$Coast;LWinterTellers$Stays;)V"⟩
abbrev c_Plans_init : ByteArray := prog_9_method_1_code
def y_Plans_init : MethodName := ⟨"WinterTellers$Plans", "<init>", "(LWinterTellers$Coast;LWinterTellers$Stand;LWinterTellers$Stays;)V"⟩
abbrev c_Duel_init : ByteArray := prog_4_method_1_code
def y_Duel_init : MethodName := ⟨"WinterTellers$Duel", "<init>", "(LWinterTellers$Coast;LWinterTellers$Stays;)V"⟩
abbrev c_W_init : ByteArray := prog_1_method_1_code
def y_W_init : MethodName := ⟨"WinterTellers", "<init>", "()V"⟩
abbrev c_M_init : ByteArray := prog_14_method_3_code
def y_M_init : MethodName := ⟨"WinterTellersModel", "<init>", "()V"⟩
theorem qa_boolean : Cond.arrayClass .boolean ∈ mj_TT := mj_tt (List.mem_of_getElem? (i := 324) (by decide +kernel)) (by decide +kernel)
theorem qa_int : Cond.arrayClass .int ∈ mj_TT := mj_tt (List.mem_of_getElem? (i := 55) (by decide +kernel)) (by decide +kernel)
theorem qe_Coast : Cond.code y_Coast_init c_Coast_init 1 none ∈ mj_TT := mj_tt (List.mem_of_getElem? (i := 66) (by decide +kernel)) (by decide +kernel)
theorem qe_CoastReader : Cond.code y_CoastReader_init c_CoastReader_init 2 none ∈ mj_TT := mj_tt (List.mem_of_getElem? (i := 60) (by decide +kernel)) (by decide +kernel)
theorem qe_Duel : Cond.code y_Duel_init c_Duel_init 3 none ∈ mj_TT := mj_tt (List.mem_of_getElem? (i := 385) (by decide +kernel)) (by decide +kernel)
theorem qe_Guess : Cond.code y_Guess_init c_Guess_init 3 none ∈ mj_TT := mj_tt (List.mem_of_getElem? (i := 302) (by decide +kernel)) (by decide +kernel)
theorem qe_LawReader : Cond.code y_LawReader_init c_LawReader_init 2 none ∈ mj_TT := mj_tt (List.mem_of_getElem? (i := 158) (by decide +kernel)) (by decide +kernel)
theorem qe_Laws : Cond.code y_Laws_init c_Laws_init 1 none ∈ mj_TT := mj_tt (List.mem_of_getElem? (i := 176) (by decide +kernel)) (by decide +kernel)
theorem qe_Past : Cond.code y_Past_init c_Past_init 1 none ∈ mj_TT := mj_tt (List.mem_of_getElem? (i := 259) (by decide +kernel)) (by decide +kernel)
theorem qe_Plans : Cond.code y_Plans_init c_Plans_init 4 none ∈ mj_TT := mj_tt (List.mem_of_getElem? (i := 329) (by decide +kernel)) (by decide +kernel)
theorem qe_Stand : Cond.code y_Stand_init c_Stand_init 1 none ∈ mj_TT := mj_tt (List.mem_of_getElem? (i := 207) (by decide +kernel)) (by decide +kernel)
theorem qe_Stays : Cond.code y_Stays_init c_Stays_init 4 none ∈ mj_TT := mj_tt (List.mem_of_getElem? (i := 286) (by decide +kernel)) (by decide +kernel)
theorem qe_Tape : Cond.code y_Tape_init c_Tape_init 1 none ∈ mj_TT := mj_tt (List.mem_of_getElem? (i := 34) (by decide +kernel)) (by decide +kernel)
theorem qi_Coast : Cond.instantiable "WinterTellers$Coast" 12 ∈ mj_TT := mj_tt (List.mem_of_getElem? (i := 63) (by decide +kernel)) (by decide +kernel)
theorem qi_CoastReader : Cond.instantiable "WinterTellers$CoastReader" 4 ∈ mj_TT := mj_tt (List.mem_of_getElem? (i := 57) (by decide +kernel)) (by decide +kernel)
theorem qi_Duel : Cond.instantiable "WinterTellers$Duel" 4 ∈ mj_TT := mj_tt (List.mem_of_getElem? (i := 382) (by decide +kernel)) (by decide +kernel)
theorem qi_Guess : Cond.instantiable "WinterTellers$Guess" 6 ∈ mj_TT := mj_tt (List.mem_of_getElem? (i := 299) (by decide +kernel)) (by decide +kernel)
theorem qi_LawReader : Cond.instantiable "WinterTellers$LawReader" 3 ∈ mj_TT := mj_tt (List.mem_of_getElem? (i := 155) (by decide +kernel)) (by decide +kernel)
theorem qi_Laws : Cond.instantiable "WinterTellers$Laws" 6 ∈ mj_TT := mj_tt (List.mem_of_getElem? (i := 173) (by decide +kernel)) (by decide +kernel)
theorem qi_Past : Cond.instantiable "WinterTellers$Past" 6 ∈ mj_TT := mj_tt (List.mem_of_getElem? (i := 256) (by decide +kernel)) (by decide +kernel)
theorem qi_Plans : Cond.instantiable "WinterTellers$Plans" 14 ∈ mj_TT := mj_tt (List.mem_of_getElem? (i := 326) (by decide +kernel)) (by decide +kernel)
theorem qi_Stand : Cond.instantiable "WinterTellers$Stand" 10 ∈ mj_TT := mj_tt (List.mem_of_getElem? (i := 204) (by decide +kernel)) (by decide +kernel)
theorem qi_Stays : Cond.instantiable "WinterTellers$Stays" 3 ∈ mj_TT := mj_tt (List.mem_of_getElem? (i := 283) (by decide +kernel)) (by decide +kernel)
theorem qi_Tape : Cond.instantiable "WinterTellers$Tape" 4 ∈ mj_TT := mj_tt (List.mem_of_getElem? (i := 31) (by decide +kernel)) (by decide +kernel)
theorem qj_Coast : Cond.instanceMethod y_Coast_init ∈ mj_TT := mj_tt (List.mem_of_getElem? (i := 65) (by decide +kernel)) (by decide +kernel)
theorem qj_CoastReader : Cond.instanceMethod y_CoastReader_init ∈ mj_TT := mj_tt (List.mem_of_getElem? (i := 59) (by decide +kernel)) (by decide +kernel)
theorem qj_Duel : Cond.instanceMethod y_Duel_init ∈ mj_TT := mj_tt (List.mem_of_getElem? (i := 384) (by decide +kernel)) (by decide +kernel)
theorem qj_Guess : Cond.instanceMethod y_Guess_init ∈ mj_TT := mj_tt (List.mem_of_getElem? (i := 301) (by decide +kernel)) (by decide +kernel)
theorem qj_LawReader : Cond.instanceMethod y_LawReader_init ∈ mj_TT := mj_tt (List.mem_of_getElem? (i := 157) (by decide +kernel)) (by decide +kernel)
theorem qj_Laws : Cond.instanceMethod y_Laws_init ∈ mj_TT := mj_tt (List.mem_of_getElem? (i := 175) (by decide +kernel)) (by decide +kernel)
theorem qj_Past : Cond.instanceMethod y_Past_init ∈ mj_TT := mj_tt (List.mem_of_getElem? (i := 258) (by decide +kernel)) (by decide +kernel)
theorem qj_Plans : Cond.instanceMethod y_Plans_init ∈ mj_TT := mj_tt (List.mem_of_getElem? (i := 328) (by decide +kernel)) (by decide +kernel)
theorem qj_Stand : Cond.instanceMethod y_Stand_init ∈ mj_TT := mj_tt (List.mem_of_getElem? (i := 206) (by decide +kernel)) (by decide +kernel)
theorem qj_Stays : Cond.instanceMethod y_Stays_init ∈ mj_TT := mj_tt (List.mem_of_getElem? (i := 285) (by decide +kernel)) (by decide +kernel)
theorem qj_Tape : Cond.instanceMethod y_Tape_init ∈ mj_TT := mj_tt (List.mem_of_getElem? (i := 33) (by decide +kernel)) (by decide +kernel)
theorem qk_CoastReader_9 : Cond.classLink "WinterTellers$CoastReader" 9 "WinterTellers$Coast" ∈ mj_TT := mj_tt (List.mem_of_getElem? (i := 62) (by decide +kernel)) (by decide +kernel)
theorem qk_W_16 : Cond.classLink "WinterTellers" 16 "WinterTellers$CoastReader" ∈ mj_TT := mj_tt (List.mem_of_getElem? (i := 56) (by decide +kernel)) (by decide +kernel)
theorem qk_W_25 : Cond.classLink "WinterTellers" 25 "WinterTellers$LawReader" ∈ mj_TT := mj_tt (List.mem_of_getElem? (i := 154) (by decide +kernel)) (by decide +kernel)
theorem qk_W_32 : Cond.classLink "WinterTellers" 32 "WinterTellers$Laws" ∈ mj_TT := mj_tt (List.mem_of_getElem? (i := 172) (by decide +kernel)) (by decide +kernel)
theorem qk_W_39 : Cond.classLink "WinterTellers" 39 "WinterTellers$Coast" ∈ mj_TT := mj_tt (List.mem_of_getElem? (i := 201) (by decide +kernel)) (by decide +kernel)
theorem qk_W_46 : Cond.classLink "WinterTellers" 46 "WinterTellers$Stand" ∈ mj_TT := mj_tt (List.mem_of_getElem? (i := 203) (by decide +kernel)) (by decide +kernel)
theorem qk_W_53 : Cond.classLink "WinterTellers" 53 "WinterTellers$Past" ∈ mj_TT := mj_tt (List.mem_of_getElem? (i := 255) (by decide +kernel)) (by decide +kernel)
theorem qk_W_60 : Cond.classLink "WinterTellers" 60 "WinterTellers$Stays" ∈ mj_TT := mj_tt (List.mem_of_getElem? (i := 282) (by decide +kernel)) (by decide +kernel)
theorem qk_W_69 : Cond.classLink "WinterTellers" 69 "WinterTellers$Guess" ∈ mj_TT := mj_tt (List.mem_of_getElem? (i := 298) (by decide +kernel)) (by decide +kernel)
theorem qk_W_78 : Cond.classLink "WinterTellers" 78 "WinterTellers$Plans" ∈ mj_TT := mj_tt (List.mem_of_getElem? (i := 325) (by decide +kernel)) (by decide +kernel)
theorem qk_W_87 : Cond.classLink "WinterTellers" 87 "WinterTellers$Duel" ∈ mj_TT := mj_tt (List.mem_of_getElem? (i := 381) (by decide +kernel)) (by decide +kernel)
theorem qk_W_9 : Cond.classLink "WinterTellers" 9 "WinterTellers$Tape" ∈ mj_TT := mj_tt (List.mem_of_getElem? (i := 30) (by decide +kernel)) (by decide +kernel)
theorem qn_Coast : Cond.initialized "WinterTellers$Coast" ∈ mj_TT := mj_tt (List.mem_of_getElem? (i := 4) (by decide +kernel)) (by decide +kernel)
theorem qn_CoastReader : Cond.initialized "WinterTellers$CoastReader" ∈ mj_TT := mj_tt (List.mem_of_getElem? (i := 3) (by decide +kernel)) (by decide +kernel)
theorem qn_Duel : Cond.initialized "WinterTellers$Duel" ∈ mj_TT := mj_tt (List.mem_of_getElem? (i := 12) (by decide +kernel)) (by decide +kernel)
theorem qn_Guess : Cond.initialized "WinterTellers$Guess" ∈ mj_TT := mj_tt (List.mem_of_getElem? (i := 10) (by decide +kernel)) (by decide +kernel)
theorem qn_LawReader : Cond.initialized "WinterTellers$LawReader" ∈ mj_TT := mj_tt (List.mem_of_getElem? (i := 5) (by decide +kernel)) (by decide +kernel)
theorem qn_Laws : Cond.initialized "WinterTellers$Laws" ∈ mj_TT := mj_tt (List.mem_of_getElem? (i := 6) (by decide +kernel)) (by decide +kernel)
theorem qn_Past : Cond.initialized "WinterTellers$Past" ∈ mj_TT := mj_tt (List.mem_of_getElem? (i := 8) (by decide +kernel)) (by decide +kernel)
theorem qn_Plans : Cond.initialized "WinterTellers$Plans" ∈ mj_TT := mj_tt (List.mem_of_getElem? (i := 11) (by decide +kernel)) (by decide +kernel)
theorem qn_Stand : Cond.initialized "WinterTellers$Stand" ∈ mj_TT := mj_tt (List.mem_of_getElem? (i := 7) (by decide +kernel)) (by decide +kernel)
theorem qn_Stays : Cond.initialized "WinterTellers$Stays" ∈ mj_TT := mj_tt (List.mem_of_getElem? (i := 9) (by decide +kernel)) (by decide +kernel)
theorem qn_Tape : Cond.initialized "WinterTellers$Tape" ∈ mj_TT := mj_tt (List.mem_of_getElem? (i := 2) (by decide +kernel)) (by decide +kernel)
theorem qo_Coast : Cond.methodLink "WinterTellers$Coast" 3 Lib.objectInit ∈ mj_TT := mj_tt (List.mem_of_getElem? (i := 67) (by decide +kernel)) (by decide +kernel)
theorem qo_CoastReader : Cond.methodLink "WinterTellers$CoastReader" 3 Lib.objectInit ∈ mj_TT := mj_tt (List.mem_of_getElem? (i := 61) (by decide +kernel)) (by decide +kernel)
theorem qo_Duel : Cond.methodLink "WinterTellers$Duel" 3 Lib.objectInit ∈ mj_TT := mj_tt (List.mem_of_getElem? (i := 386) (by decide +kernel)) (by decide +kernel)
theorem qo_Guess : Cond.methodLink "WinterTellers$Guess" 3 Lib.objectInit ∈ mj_TT := mj_tt (List.mem_of_getElem? (i := 303) (by decide +kernel)) (by decide +kernel)
theorem qo_LawReader : Cond.methodLink "WinterTellers$LawReader" 1 Lib.objectInit ∈ mj_TT := mj_tt (List.mem_of_getElem? (i := 159) (by decide +kernel)) (by decide +kernel)
theorem qo_Laws : Cond.methodLink "WinterTellers$Laws" 3 Lib.objectInit ∈ mj_TT := mj_tt (List.mem_of_getElem? (i := 177) (by decide +kernel)) (by decide +kernel)
theorem qo_M : Cond.methodLink "WinterTellersModel" 3 Lib.objectInit ∈ mj_TT := mj_tt (List.mem_of_getElem? (i := 1170) (by decide +kernel)) (by decide +kernel)
theorem qo_Past : Cond.methodLink "WinterTellers$Past" 1 Lib.objectInit ∈ mj_TT := mj_tt (List.mem_of_getElem? (i := 260) (by decide +kernel)) (by decide +kernel)
theorem qo_Plans : Cond.methodLink "WinterTellers$Plans" 3 Lib.objectInit ∈ mj_TT := mj_tt (List.mem_of_getElem? (i := 330) (by decide +kernel)) (by decide +kernel)
theorem qo_Stand : Cond.methodLink "WinterTellers$Stand" 7 Lib.objectInit ∈ mj_TT := mj_tt (List.mem_of_getElem? (i := 208) (by decide +kernel)) (by decide +kernel)
theorem qo_Stays : Cond.methodLink "WinterTellers$Stays" 3 Lib.objectInit ∈ mj_TT := mj_tt (List.mem_of_getElem? (i := 287) (by decide +kernel)) (by decide +kernel)
theorem qo_Tape : Cond.methodLink "WinterTellers$Tape" 3 Lib.objectInit ∈ mj_TT := mj_tt (List.mem_of_getElem? (i := 35) (by decide +kernel)) (by decide +kernel)
theorem qo_W : Cond.methodLink "WinterTellers" 3 Lib.objectInit ∈ mj_TT := mj_tt (List.mem_of_getElem? (i := 27) (by decide +kernel)) (by decide +kernel)
theorem qo_c : Cond.code Lib.objectInit ⟨#[0xb1]⟩ 1 none ∈ mj_TT := mj_tt (List.mem_of_getElem? (i := 29) (by decide +kernel)) (by decide +kernel)
theorem qo_i : Cond.instanceMethod Lib.objectInit ∈ mj_TT := mj_tt (List.mem_of_getElem? (i := 28) (by decide +kernel)) (by decide +kernel)
theorem qw_W_18 : Cond.methodLink "WinterTellers" 18 y_CoastReader_init ∈ mj_TT := mj_tt (List.mem_of_getElem? (i := 58) (by decide +kernel)) (by decide +kernel)
theorem qw_W_27 : Cond.methodLink "WinterTellers" 27 y_LawReader_init ∈ mj_TT := mj_tt (List.mem_of_getElem? (i := 156) (by decide +kernel)) (by decide +kernel)
theorem qw_W_62 : Cond.methodLink "WinterTellers" 62 y_Stays_init ∈ mj_TT := mj_tt (List.mem_of_getElem? (i := 284) (by decide +kernel)) (by decide +kernel)
theorem qw_W_71 : Cond.methodLink "WinterTellers" 71 y_Guess_init ∈ mj_TT := mj_tt (List.mem_of_getElem? (i := 300) (by decide +kernel)) (by decide +kernel)
theorem qw_W_80 : Cond.methodLink "WinterTellers" 80 y_Plans_init ∈ mj_TT := mj_tt (List.mem_of_getElem? (i := 327) (by decide +kernel)) (by decide +kernel)
theorem qw_W_89 : Cond.methodLink "WinterTellers" 89 y_Duel_init ∈ mj_TT := mj_tt (List.mem_of_getElem? (i := 383) (by decide +kernel)) (by decide +kernel)
theorem dd_Tape_init_0 : decode c_Tape_init 0 = .ok (.aload_n 0, 1) := by decide +kernel
theorem dd_Tape_init_1 : decode c_Tape_init 1 = .ok (.invokespecial 3, 3) := by decide +kernel
theorem dd_Tape_init_4 : decode c_Tape_init 4 = .ok (.aload_n 0, 1) := by decide +kernel
theorem dd_Tape_init_5 : decode c_Tape_init 5 = .ok (.sipush 240, 3) := by decide +kernel
theorem dd_Tape_init_8 : decode c_Tape_init 8 = .ok (.newarray .int, 2) := by decide +kernel
theorem dd_Tape_init_10 : decode c_Tape_init 10 = .ok (.putfield 11, 3) := by decide +kernel
theorem dd_Tape_init_13 : decode c_Tape_init 13 = .ok (.return_, 1) := by decide +kernel
theorem dd_Coast_init_0 : decode c_Coast_init 0 = .ok (.aload_n 0, 1) := by decide +kernel
theorem dd_Coast_init_1 : decode c_Coast_init 1 = .ok (.invokespecial 3, 3) := by decide +kernel
theorem dd_Coast_init_4 : decode c_Coast_init 4 = .ok (.aload_n 0, 1) := by decide +kernel
theorem dd_Coast_init_5 : decode c_Coast_init 5 = .ok (.bipush 6, 2) := by decide +kernel
theorem dd_Coast_init_7 : decode c_Coast_init 7 = .ok (.newarray .int, 2) := by decide +kernel
theorem dd_Coast_init_9 : decode c_Coast_init 9 = .ok (.putfield 9, 3) := by decide +kernel
theorem dd_Coast_init_12 : decode c_Coast_init 12 = .ok (.aload_n 0, 1) := by decide +kernel
theorem dd_Coast_init_13 : decode c_Coast_init 13 = .ok (.bipush 6, 2) := by decide +kernel
theorem dd_Coast_init_15 : decode c_Coast_init 15 = .ok (.newarray .int, 2) := by decide +kernel
theorem dd_Coast_init_17 : decode c_Coast_init 17 = .ok (.putfield 15, 3) := by decide +kernel
theorem dd_Coast_init_20 : decode c_Coast_init 20 = .ok (.aload_n 0, 1) := by decide +kernel
theorem dd_Coast_init_21 : decode c_Coast_init 21 = .ok (.bipush 6, 2) := by decide +kernel
theorem dd_Coast_init_23 : decode c_Coast_init 23 = .ok (.newarray .int, 2) := by decide +kernel
theorem dd_Coast_init_25 : decode c_Coast_init 25 = .ok (.putfield 18, 3) := by decide +kernel
theorem dd_Coast_init_28 : decode c_Coast_init 28 = .ok (.aload_n 0, 1) := by decide +kernel
theorem dd_Coast_init_29 : decode c_Coast_init 29 = .ok (.bipush 6, 2) := by decide +kernel
theorem dd_Coast_init_31 : decode c_Coast_init 31 = .ok (.newarray .int, 2) := by decide +kernel
theorem dd_Coast_init_33 : decode c_Coast_init 33 = .ok (.putfield 21, 3) := by decide +kernel
theorem dd_Coast_init_36 : decode c_Coast_init 36 = .ok (.aload_n 0, 1) := by decide +kernel
theorem dd_Coast_init_37 : decode c_Coast_init 37 = .ok (.bipush 6, 2) := by decide +kernel
theorem dd_Coast_init_39 : decode c_Coast_init 39 = .ok (.newarray .int, 2) := by decide +kernel
theorem dd_Coast_init_41 : decode c_Coast_init 41 = .ok (.putfield 24, 3) := by decide +kernel
theorem dd_Coast_init_44 : decode c_Coast_init 44 = .ok (.aload_n 0, 1) := by decide +kernel
theorem dd_Coast_init_45 : decode c_Coast_init 45 = .ok (.bipush 6, 2) := by decide +kernel
theorem dd_Coast_init_47 : decode c_Coast_init 47 = .ok (.newarray .int, 2) := by decide +kernel
theorem dd_Coast_init_49 : decode c_Coast_init 49 = .ok (.putfield 27, 3) := by decide +kernel
theorem dd_Coast_init_52 : decode c_Coast_init 52 = .ok (.return_, 1) := by decide +kernel
theorem dd_CoastReader_init_0 : decode c_CoastReader_init 0 = .ok (.aload_n 0, 1) := by decide +kernel
theorem dd_CoastReader_init_1 : decode c_CoastReader_init 1 = .ok (.invokespecial 3, 3) := by decide +kernel
theorem dd_CoastReader_init_4 : decode c_CoastReader_init 4 = .ok (.aload_n 0, 1) := by decide +kernel
theorem dd_CoastReader_init_5 : decode c_CoastReader_init 5 = .ok (.new 9, 3) := by decide +kernel
theorem dd_CoastReader_init_8 : decode c_CoastReader_init 8 = .ok (.dup, 1) := by decide +kernel
theorem dd_CoastReader_init_9 : decode c_CoastReader_init 9 = .ok (.invokespecial 11, 3) := by decide +kernel
theorem dd_CoastReader_init_12 : decode c_CoastReader_init 12 = .ok (.putfield 12, 3) := by decide +kernel
theorem dd_CoastReader_init_15 : decode c_CoastReader_init 15 = .ok (.aload_n 0, 1) := by decide +kernel
theorem dd_CoastReader_init_16 : decode c_CoastReader_init 16 = .ok (.bipush 10, 2) := by decide +kernel
theorem dd_CoastReader_init_18 : decode c_CoastReader_init 18 = .ok (.newarray .int, 2) := by decide +kernel
theorem dd_CoastReader_init_20 : decode c_CoastReader_init 20 = .ok (.putfield 18, 3) := by decide +kernel
theorem dd_CoastReader_init_23 : decode c_CoastReader_init 23 = .ok (.aload_n 0, 1) := by decide +kernel
theorem dd_CoastReader_init_24 : decode c_CoastReader_init 24 = .ok (.aload_n 1, 1) := by decide +kernel
theorem dd_CoastReader_init_25 : decode c_CoastReader_init 25 = .ok (.putfield 22, 3) := by decide +kernel
theorem dd_CoastReader_init_28 : decode c_CoastReader_init 28 = .ok (.return_, 1) := by decide +kernel
theorem dd_LawReader_init_0 : decode c_LawReader_init 0 = .ok (.aload_n 0, 1) := by decide +kernel
theorem dd_LawReader_init_1 : decode c_LawReader_init 1 = .ok (.invokespecial 1, 3) := by decide +kernel
theorem dd_LawReader_init_4 : decode c_LawReader_init 4 = .ok (.aload_n 0, 1) := by decide +kernel
theorem dd_LawReader_init_5 : decode c_LawReader_init 5 = .ok (.sipush 240, 3) := by decide +kernel
theorem dd_LawReader_init_8 : decode c_LawReader_init 8 = .ok (.newarray .int, 2) := by decide +kernel
theorem dd_LawReader_init_10 : decode c_LawReader_init 10 = .ok (.putfield 9, 3) := by decide +kernel
theorem dd_LawReader_init_13 : decode c_LawReader_init 13 = .ok (.aload_n 0, 1) := by decide +kernel
theorem dd_LawReader_init_14 : decode c_LawReader_init 14 = .ok (.aload_n 1, 1) := by decide +kernel
theorem dd_LawReader_init_15 : decode c_LawReader_init 15 = .ok (.putfield 15, 3) := by decide +kernel
theorem dd_LawReader_init_18 : decode c_LawReader_init 18 = .ok (.return_, 1) := by decide +kernel
theorem dd_Laws_init_0 : decode c_Laws_init 0 = .ok (.aload_n 0, 1) := by decide +kernel
theorem dd_Laws_init_1 : decode c_Laws_init 1 = .ok (.invokespecial 3, 3) := by decide +kernel
theorem dd_Laws_init_4 : decode c_Laws_init 4 = .ok (.aload_n 0, 1) := by decide +kernel
theorem dd_Laws_init_5 : decode c_Laws_init 5 = .ok (.iconst (-1), 1) := by decide +kernel
theorem dd_Laws_init_6 : decode c_Laws_init 6 = .ok (.putfield 9, 3) := by decide +kernel
theorem dd_Laws_init_9 : decode c_Laws_init 9 = .ok (.aload_n 0, 1) := by decide +kernel
theorem dd_Laws_init_10 : decode c_Laws_init 10 = .ok (.bipush 6, 2) := by decide +kernel
theorem dd_Laws_init_12 : decode c_Laws_init 12 = .ok (.newarray .int, 2) := by decide +kernel
theorem dd_Laws_init_14 : decode c_Laws_init 14 = .ok (.putfield 15, 3) := by decide +kernel
theorem dd_Laws_init_17 : decode c_Laws_init 17 = .ok (.aload_n 0, 1) := by decide +kernel
theorem dd_Laws_init_18 : decode c_Laws_init 18 = .ok (.sipush 960, 3) := by decide +kernel
theorem dd_Laws_init_21 : decode c_Laws_init 21 = .ok (.newarray .int, 2) := by decide +kernel
theorem dd_Laws_init_23 : decode c_Laws_init 23 = .ok (.putfield 21, 3) := by decide +kernel
theorem dd_Laws_init_26 : decode c_Laws_init 26 = .ok (.aload_n 0, 1) := by decide +kernel
theorem dd_Laws_init_27 : decode c_Laws_init 27 = .ok (.iconst 4, 1) := by decide +kernel
theorem dd_Laws_init_28 : decode c_Laws_init 28 = .ok (.newarray .int, 2) := by decide +kernel
theorem dd_Laws_init_30 : decode c_Laws_init 30 = .ok (.putfield 24, 3) := by decide +kernel
theorem dd_Laws_init_33 : decode c_Laws_init 33 = .ok (.aload_n 0, 1) := by decide +kernel
theorem dd_Laws_init_34 : decode c_Laws_init 34 = .ok (.bipush 32, 2) := by decide +kernel
theorem dd_Laws_init_36 : decode c_Laws_init 36 = .ok (.newarray .int, 2) := by decide +kernel
theorem dd_Laws_init_38 : decode c_Laws_init 38 = .ok (.putfield 27, 3) := by decide +kernel
theorem dd_Laws_init_41 : decode c_Laws_init 41 = .ok (.return_, 1) := by decide +kernel
theorem dd_Stand_init_0 : decode c_Stand_init 0 = .ok (.aload_n 0, 1) := by decide +kernel
theorem dd_Stand_init_1 : decode c_Stand_init 1 = .ok (.invokespecial 7, 3) := by decide +kernel
theorem dd_Stand_init_4 : decode c_Stand_init 4 = .ok (.aload_n 0, 1) := by decide +kernel
theorem dd_Stand_init_5 : decode c_Stand_init 5 = .ok (.bipush 6, 2) := by decide +kernel
theorem dd_Stand_init_7 : decode c_Stand_init 7 = .ok (.newarray .int, 2) := by decide +kernel
theorem dd_Stand_init_9 : decode c_Stand_init 9 = .ok (.putfield 13, 3) := by decide +kernel
theorem dd_Stand_init_12 : decode c_Stand_init 12 = .ok (.aload_n 0, 1) := by decide +kernel
theorem dd_Stand_init_13 : decode c_Stand_init 13 = .ok (.bipush 36, 2) := by decide +kernel
theorem dd_Stand_init_15 : decode c_Stand_init 15 = .ok (.newarray .int, 2) := by decide +kernel
theorem dd_Stand_init_17 : decode c_Stand_init 17 = .ok (.putfield 17, 3) := by decide +kernel
theorem dd_Stand_init_20 : decode c_Stand_init 20 = .ok (.aload_n 0, 1) := by decide +kernel
theorem dd_Stand_init_21 : decode c_Stand_init 21 = .ok (.bipush 100, 2) := by decide +kernel
theorem dd_Stand_init_23 : decode c_Stand_init 23 = .ok (.newarray .int, 2) := by decide +kernel
theorem dd_Stand_init_25 : decode c_Stand_init 25 = .ok (.putfield 20, 3) := by decide +kernel
theorem dd_Stand_init_28 : decode c_Stand_init 28 = .ok (.return_, 1) := by decide +kernel
theorem dd_Past_init_0 : decode c_Past_init 0 = .ok (.aload_n 0, 1) := by decide +kernel
theorem dd_Past_init_1 : decode c_Past_init 1 = .ok (.invokespecial 1, 3) := by decide +kernel
theorem dd_Past_init_4 : decode c_Past_init 4 = .ok (.aload_n 0, 1) := by decide +kernel
theorem dd_Past_init_5 : decode c_Past_init 5 = .ok (.sipush 1960, 3) := by decide +kernel
theorem dd_Past_init_8 : decode c_Past_init 8 = .ok (.newarray .int, 2) := by decide +kernel
theorem dd_Past_init_10 : decode c_Past_init 10 = .ok (.putfield 11, 3) := by decide +kernel
theorem dd_Past_init_13 : decode c_Past_init 13 = .ok (.aload_n 0, 1) := by decide +kernel
theorem dd_Past_init_14 : decode c_Past_init 14 = .ok (.bipush 49, 2) := by decide +kernel
theorem dd_Past_init_16 : decode c_Past_init 16 = .ok (.newarray .int, 2) := by decide +kernel
theorem dd_Past_init_18 : decode c_Past_init 18 = .ok (.putfield 15, 3) := by decide +kernel
theorem dd_Past_init_21 : decode c_Past_init 21 = .ok (.aload_n 0, 1) := by decide +kernel
theorem dd_Past_init_22 : decode c_Past_init 22 = .ok (.bipush 100, 2) := by decide +kernel
theorem dd_Past_init_24 : decode c_Past_init 24 = .ok (.newarray .int, 2) := by decide +kernel
theorem dd_Past_init_26 : decode c_Past_init 26 = .ok (.putfield 18, 3) := by decide +kernel
theorem dd_Past_init_29 : decode c_Past_init 29 = .ok (.return_, 1) := by decide +kernel
theorem dd_Stays_init_0 : decode c_Stays_init 0 = .ok (.aload_n 0, 1) := by decide +kernel
theorem dd_Stays_init_1 : decode c_Stays_init 1 = .ok (.invokespecial 3, 3) := by decide +kernel
theorem dd_Stays_init_4 : decode c_Stays_init 4 = .ok (.aload_n 0, 1) := by decide +kernel
theorem dd_Stays_init_5 : decode c_Stays_init 5 = .ok (.aload_n 1, 1) := by decide +kernel
theorem dd_Stays_init_6 : decode c_Stays_init 6 = .ok (.putfield 9, 3) := by decide +kernel
theorem dd_Stays_init_9 : decode c_Stays_init 9 = .ok (.aload_n 0, 1) := by decide +kernel
theorem dd_Stays_init_10 : decode c_Stays_init 10 = .ok (.aload_n 2, 1) := by decide +kernel
theorem dd_Stays_init_11 : decode c_Stays_init 11 = .ok (.putfield 15, 3) := by decide +kernel
theorem dd_Stays_init_14 : decode c_Stays_init 14 = .ok (.aload_n 0, 1) := by decide +kernel
theorem dd_Stays_init_15 : decode c_Stays_init 15 = .ok (.aload_n 3, 1) := by decide +kernel
theorem dd_Stays_init_16 : decode c_Stays_init 16 = .ok (.putfield 19, 3) := by decide +kernel
theorem dd_Stays_init_19 : decode c_Stays_init 19 = .ok (.return_, 1) := by decide +kernel
theorem dd_Guess_init_0 : decode c_Guess_init 0 = .ok (.aload_n 0, 1) := by decide +kernel
theorem dd_Guess_init_1 : decode c_Guess_init 1 = .ok (.invokespecial 3, 3) := by decide +kernel
theorem dd_Guess_init_4 : decode c_Guess_init 4 = .ok (.aload_n 0, 1) := by decide +kernel
theorem dd_Guess_init_5 : decode c_Guess_init 5 = .ok (.bipush 10, 2) := by decide +kernel
theorem dd_Guess_init_7 : decode c_Guess_init 7 = .ok (.newarray .int, 2) := by decide +kernel
theorem dd_Guess_init_9 : decode c_Guess_init 9 = .ok (.putfield 11, 3) := by decide +kernel
theorem dd_Guess_init_12 : decode c_Guess_init 12 = .ok (.aload_n 0, 1) := by decide +kernel
theorem dd_Guess_init_13 : decode c_Guess_init 13 = .ok (.bipush 10, 2) := by decide +kernel
theorem dd_Guess_init_15 : decode c_Guess_init 15 = .ok (.newarray .int, 2) := by decide +kernel
theorem dd_Guess_init_17 : decode c_Guess_init 17 = .ok (.putfield 15, 3) := by decide +kernel
theorem dd_Guess_init_20 : decode c_Guess_init 20 = .ok (.aload_n 0, 1) := by decide +kernel
theorem dd_Guess_init_21 : decode c_Guess_init 21 = .ok (.bipush 10, 2) := by decide +kernel
theorem dd_Guess_init_23 : decode c_Guess_init 23 = .ok (.newarray .boolean, 2) := by decide +kernel
theorem dd_Guess_init_25 : decode c_Guess_init 25 = .ok (.putfield 18, 3) := by decide +kernel
theorem dd_Guess_init_28 : decode c_Guess_init 28 = .ok (.aload_n 0, 1) := by decide +kernel
theorem dd_Guess_init_29 : decode c_Guess_init 29 = .ok (.aload_n 1, 1) := by decide +kernel
theorem dd_Guess_init_30 : decode c_Guess_init 30 = .ok (.putfield 22, 3) := by decide +kernel
theorem dd_Guess_init_33 : decode c_Guess_init 33 = .ok (.aload_n 0, 1) := by decide +kernel
theorem dd_Guess_init_34 : decode c_Guess_init 34 = .ok (.aload_n 2, 1) := by decide +kernel
theorem dd_Guess_init_35 : decode c_Guess_init 35 = .ok (.putfield 26, 3) := by decide +kernel
theorem dd_Guess_init_38 : decode c_Guess_init 38 = .ok (.return_, 1) := by decide +kernel
theorem dd_Plans_init_0 : decode c_Plans_init 0 = .ok (.aload_n 0, 1) := by decide +kernel
theorem dd_Plans_init_1 : decode c_Plans_init 1 = .ok (.invokespecial 3, 3) := by decide +kernel
theorem dd_Plans_init_4 : decode c_Plans_init 4 = .ok (.aload_n 0, 1) := by decide +kernel
theorem dd_Plans_init_5 : decode c_Plans_init 5 = .ok (.bipush 36, 2) := by decide +kernel
theorem dd_Plans_init_7 : decode c_Plans_init 7 = .ok (.newarray .int, 2) := by decide +kernel
theorem dd_Plans_init_9 : decode c_Plans_init 9 = .ok (.putfield 9, 3) := by decide +kernel
theorem dd_Plans_init_12 : decode c_Plans_init 12 = .ok (.aload_n 0, 1) := by decide +kernel
theorem dd_Plans_init_13 : decode c_Plans_init 13 = .ok (.bipush 36, 2) := by decide +kernel
theorem dd_Plans_init_15 : decode c_Plans_init 15 = .ok (.newarray .int, 2) := by decide +kernel
theorem dd_Plans_init_17 : decode c_Plans_init 17 = .ok (.putfield 15, 3) := by decide +kernel
theorem dd_Plans_init_20 : decode c_Plans_init 20 = .ok (.aload_n 0, 1) := by decide +kernel
theorem dd_Plans_init_21 : decode c_Plans_init 21 = .ok (.bipush 36, 2) := by decide +kernel
theorem dd_Plans_init_23 : decode c_Plans_init 23 = .ok (.newarray .int, 2) := by decide +kernel
theorem dd_Plans_init_25 : decode c_Plans_init 25 = .ok (.putfield 18, 3) := by decide +kernel
theorem dd_Plans_init_28 : decode c_Plans_init 28 = .ok (.aload_n 0, 1) := by decide +kernel
theorem dd_Plans_init_29 : decode c_Plans_init 29 = .ok (.sipush 448, 3) := by decide +kernel
theorem dd_Plans_init_32 : decode c_Plans_init 32 = .ok (.newarray .int, 2) := by decide +kernel
theorem dd_Plans_init_34 : decode c_Plans_init 34 = .ok (.putfield 21, 3) := by decide +kernel
theorem dd_Plans_init_37 : decode c_Plans_init 37 = .ok (.aload_n 0, 1) := by decide +kernel
theorem dd_Plans_init_38 : decode c_Plans_init 38 = .ok (.aload_n 1, 1) := by decide +kernel
theorem dd_Plans_init_39 : decode c_Plans_init 39 = .ok (.putfield 24, 3) := by decide +kernel
theorem dd_Plans_init_42 : decode c_Plans_init 42 = .ok (.aload_n 0, 1) := by decide +kernel
theorem dd_Plans_init_43 : decode c_Plans_init 43 = .ok (.aload_n 2, 1) := by decide +kernel
theorem dd_Plans_init_44 : decode c_Plans_init 44 = .ok (.putfield 28, 3) := by decide +kernel
theorem dd_Plans_init_47 : decode c_Plans_init 47 = .ok (.aload_n 0, 1) := by decide +kernel
theorem dd_Plans_init_48 : decode c_Plans_init 48 = .ok (.aload_n 3, 1) := by decide +kernel
theorem dd_Plans_init_49 : decode c_Plans_init 49 = .ok (.putfield 32, 3) := by decide +kernel
theorem dd_Plans_init_52 : decode c_Plans_init 52 = .ok (.return_, 1) := by decide +kernel
theorem dd_Duel_init_0 : decode c_Duel_init 0 = .ok (.aload_n 0, 1) := by decide +kernel
theorem dd_Duel_init_1 : decode c_Duel_init 1 = .ok (.invokespecial 3, 3) := by decide +kernel
theorem dd_Duel_init_4 : decode c_Duel_init 4 = .ok (.aload_n 0, 1) := by decide +kernel
theorem dd_Duel_init_5 : decode c_Duel_init 5 = .ok (.bipush 6, 2) := by decide +kernel
theorem dd_Duel_init_7 : decode c_Duel_init 7 = .ok (.newarray .int, 2) := by decide +kernel
theorem dd_Duel_init_9 : decode c_Duel_init 9 = .ok (.putfield 9, 3) := by decide +kernel
theorem dd_Duel_init_12 : decode c_Duel_init 12 = .ok (.aload_n 0, 1) := by decide +kernel
theorem dd_Duel_init_13 : decode c_Duel_init 13 = .ok (.bipush 6, 2) := by decide +kernel
theorem dd_Duel_init_15 : decode c_Duel_init 15 = .ok (.newarray .int, 2) := by decide +kernel
theorem dd_Duel_init_17 : decode c_Duel_init 17 = .ok (.putfield 15, 3) := by decide +kernel
theorem dd_Duel_init_20 : decode c_Duel_init 20 = .ok (.aload_n 0, 1) := by decide +kernel
theorem dd_Duel_init_21 : decode c_Duel_init 21 = .ok (.aload_n 1, 1) := by decide +kernel
theorem dd_Duel_init_22 : decode c_Duel_init 22 = .ok (.putfield 18, 3) := by decide +kernel
theorem dd_Duel_init_25 : decode c_Duel_init 25 = .ok (.aload_n 0, 1) := by decide +kernel
theorem dd_Duel_init_26 : decode c_Duel_init 26 = .ok (.aload_n 2, 1) := by decide +kernel
theorem dd_Duel_init_27 : decode c_Duel_init 27 = .ok (.putfield 22, 3) := by decide +kernel
theorem dd_Duel_init_30 : decode c_Duel_init 30 = .ok (.return_, 1) := by decide +kernel
theorem dd_W_init_0 : decode c_W_init 0 = .ok (.aload_n 0, 1) := by decide +kernel
theorem dd_W_init_1 : decode c_W_init 1 = .ok (.invokespecial 3, 3) := by decide +kernel
theorem dd_W_init_4 : decode c_W_init 4 = .ok (.aload_n 0, 1) := by decide +kernel
theorem dd_W_init_5 : decode c_W_init 5 = .ok (.new 9, 3) := by decide +kernel
theorem dd_W_init_8 : decode c_W_init 8 = .ok (.dup, 1) := by decide +kernel
theorem dd_W_init_9 : decode c_W_init 9 = .ok (.invokespecial 11, 3) := by decide +kernel
theorem dd_W_init_12 : decode c_W_init 12 = .ok (.putfield 12, 3) := by decide +kernel
theorem dd_W_init_15 : decode c_W_init 15 = .ok (.aload_n 0, 1) := by decide +kernel
theorem dd_W_init_16 : decode c_W_init 16 = .ok (.new 16, 3) := by decide +kernel
theorem dd_W_init_19 : decode c_W_init 19 = .ok (.dup, 1) := by decide +kernel
theorem dd_W_init_20 : decode c_W_init 20 = .ok (.aload_n 0, 1) := by decide +kernel
theorem dd_W_init_21 : decode c_W_init 21 = .ok (.getfield 12, 3) := by decide +kernel
theorem dd_W_init_24 : decode c_W_init 24 = .ok (.invokespecial 18, 3) := by decide +kernel
theorem dd_W_init_27 : decode c_W_init 27 = .ok (.putfield 21, 3) := by decide +kernel
theorem dd_W_init_30 : decode c_W_init 30 = .ok (.aload_n 0, 1) := by decide +kernel
theorem dd_W_init_31 : decode c_W_init 31 = .ok (.new 25, 3) := by decide +kernel
theorem dd_W_init_34 : decode c_W_init 34 = .ok (.dup, 1) := by decide +kernel
theorem dd_W_init_35 : decode c_W_init 35 = .ok (.aload_n 0, 1) := by decide +kernel
theorem dd_W_init_36 : decode c_W_init 36 = .ok (.getfield 12, 3) := by decide +kernel
theorem dd_W_init_39 : decode c_W_init 39 = .ok (.invokespecial 27, 3) := by decide +kernel
theorem dd_W_init_42 : decode c_W_init 42 = .ok (.putfield 28, 3) := by decide +kernel
theorem dd_W_init_45 : decode c_W_init 45 = .ok (.aload_n 0, 1) := by decide +kernel
theorem dd_W_init_46 : decode c_W_init 46 = .ok (.new 32, 3) := by decide +kernel
theorem dd_W_init_49 : decode c_W_init 49 = .ok (.dup, 1) := by decide +kernel
theorem dd_W_init_50 : decode c_W_init 50 = .ok (.invokespecial 34, 3) := by decide +kernel
theorem dd_W_init_53 : decode c_W_init 53 = .ok (.putfield 35, 3) := by decide +kernel
theorem dd_W_init_56 : decode c_W_init 56 = .ok (.aload_n 0, 1) := by decide +kernel
theorem dd_W_init_57 : decode c_W_init 57 = .ok (.new 39, 3) := by decide +kernel
theorem dd_W_init_60 : decode c_W_init 60 = .ok (.dup, 1) := by decide +kernel
theorem dd_W_init_61 : decode c_W_init 61 = .ok (.invokespecial 41, 3) := by decide +kernel
theorem dd_W_init_64 : decode c_W_init 64 = .ok (.putfield 42, 3) := by decide +kernel
theorem dd_W_init_67 : decode c_W_init 67 = .ok (.aload_n 0, 1) := by decide +kernel
theorem dd_W_init_68 : decode c_W_init 68 = .ok (.new 46, 3) := by decide +kernel
theorem dd_W_init_71 : decode c_W_init 71 = .ok (.dup, 1) := by decide +kernel
theorem dd_W_init_72 : decode c_W_init 72 = .ok (.invokespecial 48, 3) := by decide +kernel
theorem dd_W_init_75 : decode c_W_init 75 = .ok (.putfield 49, 3) := by decide +kernel
theorem dd_W_init_78 : decode c_W_init 78 = .ok (.aload_n 0, 1) := by decide +kernel
theorem dd_W_init_79 : decode c_W_init 79 = .ok (.new 53, 3) := by decide +kernel
theorem dd_W_init_82 : decode c_W_init 82 = .ok (.dup, 1) := by decide +kernel
theorem dd_W_init_83 : decode c_W_init 83 = .ok (.invokespecial 55, 3) := by decide +kernel
theorem dd_W_init_86 : decode c_W_init 86 = .ok (.putfield 56, 3) := by decide +kernel
theorem dd_W_init_89 : decode c_W_init 89 = .ok (.aload_n 0, 1) := by decide +kernel
theorem dd_W_init_90 : decode c_W_init 90 = .ok (.new 60, 3) := by decide +kernel
theorem dd_W_init_93 : decode c_W_init 93 = .ok (.dup, 1) := by decide +kernel
theorem dd_W_init_94 : decode c_W_init 94 = .ok (.aload_n 0, 1) := by decide +kernel
theorem dd_W_init_95 : decode c_W_init 95 = .ok (.getfield 42, 3) := by decide +kernel
theorem dd_W_init_98 : decode c_W_init 98 = .ok (.aload_n 0, 1) := by decide +kernel
theorem dd_W_init_99 : decode c_W_init 99 = .ok (.getfield 49, 3) := by decide +kernel
theorem dd_W_init_102 : decode c_W_init 102 = .ok (.aload_n 0, 1) := by decide +kernel
theorem dd_W_init_103 : decode c_W_init 103 = .ok (.getfield 35, 3) := by decide +kernel
theorem dd_W_init_106 : decode c_W_init 106 = .ok (.invokespecial 62, 3) := by decide +kernel
theorem dd_W_init_109 : decode c_W_init 109 = .ok (.putfield 65, 3) := by decide +kernel
theorem dd_W_init_112 : decode c_W_init 112 = .ok (.aload_n 0, 1) := by decide +kernel
theorem dd_W_init_113 : decode c_W_init 113 = .ok (.new 69, 3) := by decide +kernel
theorem dd_W_init_116 : decode c_W_init 116 = .ok (.dup, 1) := by decide +kernel
theorem dd_W_init_117 : decode c_W_init 117 = .ok (.aload_n 0, 1) := by decide +kernel
theorem dd_W_init_118 : decode c_W_init 118 = .ok (.getfield 42, 3) := by decide +kernel
theorem dd_W_init_121 : decode c_W_init 121 = .ok (.aload_n 0, 1) := by decide +kernel
theorem dd_W_init_122 : decode c_W_init 122 = .ok (.getfield 65, 3) := by decide +kernel
theorem dd_W_init_125 : decode c_W_init 125 = .ok (.invokespecial 71, 3) := by decide +kernel
theorem dd_W_init_128 : decode c_W_init 128 = .ok (.putfield 74, 3) := by decide +kernel
theorem dd_W_init_131 : decode c_W_init 131 = .ok (.aload_n 0, 1) := by decide +kernel
theorem dd_W_init_132 : decode c_W_init 132 = .ok (.new 78, 3) := by decide +kernel
theorem dd_W_init_135 : decode c_W_init 135 = .ok (.dup, 1) := by decide +kernel
theorem dd_W_init_136 : decode c_W_init 136 = .ok (.aload_n 0, 1) := by decide +kernel
theorem dd_W_init_137 : decode c_W_init 137 = .ok (.getfield 42, 3) := by decide +kernel
theorem dd_W_init_140 : decode c_W_init 140 = .ok (.aload_n 0, 1) := by decide +kernel
theorem dd_W_init_141 : decode c_W_init 141 = .ok (.getfield 49, 3) := by decide +kernel
theorem dd_W_init_144 : decode c_W_init 144 = .ok (.aload_n 0, 1) := by decide +kernel
theorem dd_W_init_145 : decode c_W_init 145 = .ok (.getfield 65, 3) := by decide +kernel
theorem dd_W_init_148 : decode c_W_init 148 = .ok (.invokespecial 80, 3) := by decide +kernel
theorem dd_W_init_151 : decode c_W_init 151 = .ok (.putfield 83, 3) := by decide +kernel
theorem dd_W_init_154 : decode c_W_init 154 = .ok (.aload_n 0, 1) := by decide +kernel
theorem dd_W_init_155 : decode c_W_init 155 = .ok (.new 87, 3) := by decide +kernel
theorem dd_W_init_158 : decode c_W_init 158 = .ok (.dup, 1) := by decide +kernel
theorem dd_W_init_159 : decode c_W_init 159 = .ok (.aload_n 0, 1) := by decide +kernel
theorem dd_W_init_160 : decode c_W_init 160 = .ok (.getfield 42, 3) := by decide +kernel
theorem dd_W_init_163 : decode c_W_init 163 = .ok (.aload_n 0, 1) := by decide +kernel
theorem dd_W_init_164 : decode c_W_init 164 = .ok (.getfield 65, 3) := by decide +kernel
theorem dd_W_init_167 : decode c_W_init 167 = .ok (.invokespecial 89, 3) := by decide +kernel
theorem dd_W_init_170 : decode c_W_init 170 = .ok (.putfield 90, 3) := by decide +kernel
theorem dd_W_init_173 : decode c_W_init 173 = .ok (.aload_n 0, 1) := by decide +kernel
theorem dd_W_init_174 : decode c_W_init 174 = .ok (.iconst 5, 1) := by decide +kernel
theorem dd_W_init_175 : decode c_W_init 175 = .ok (.newarray .int, 2) := by decide +kernel
theorem dd_W_init_177 : decode c_W_init 177 = .ok (.putfield 94, 3) := by decide +kernel
theorem dd_W_init_180 : decode c_W_init 180 = .ok (.aload_n 0, 1) := by decide +kernel
theorem dd_W_init_181 : decode c_W_init 181 = .ok (.iconst 2, 1) := by decide +kernel
theorem dd_W_init_182 : decode c_W_init 182 = .ok (.putfield 98, 3) := by decide +kernel
theorem dd_W_init_185 : decode c_W_init 185 = .ok (.return_, 1) := by decide +kernel
theorem dd_M_init_0 : decode c_M_init 0 = .ok (.aload_n 0, 1) := by decide +kernel
theorem dd_M_init_1 : decode c_M_init 1 = .ok (.invokespecial 3, 3) := by decide +kernel
theorem dd_M_init_4 : decode c_M_init 4 = .ok (.aload_n 0, 1) := by decide +kernel
theorem dd_M_init_5 : decode c_M_init 5 = .ok (.sipush 240, 3) := by decide +kernel
theorem dd_M_init_8 : decode c_M_init 8 = .ok (.newarray .int, 2) := by decide +kernel
theorem dd_M_init_10 : decode c_M_init 10 = .ok (.putfield 9, 3) := by decide +kernel
theorem dd_M_init_13 : decode c_M_init 13 = .ok (.aload_n 0, 1) := by decide +kernel
theorem dd_M_init_14 : decode c_M_init 14 = .ok (.sipush 2600, 3) := by decide +kernel
theorem dd_M_init_17 : decode c_M_init 17 = .ok (.newarray .int, 2) := by decide +kernel
theorem dd_M_init_19 : decode c_M_init 19 = .ok (.putfield 13, 3) := by decide +kernel
theorem dd_M_init_22 : decode c_M_init 22 = .ok (.aload_n 0, 1) := by decide +kernel
theorem dd_M_init_23 : decode c_M_init 23 = .ok (.sipush 2600, 3) := by decide +kernel
theorem dd_M_init_26 : decode c_M_init 26 = .ok (.newarray .int, 2) := by decide +kernel
theorem dd_M_init_28 : decode c_M_init 28 = .ok (.putfield 16, 3) := by decide +kernel
theorem dd_M_init_31 : decode c_M_init 31 = .ok (.aload_n 0, 1) := by decide +kernel
theorem dd_M_init_32 : decode c_M_init 32 = .ok (.iconst 5, 1) := by decide +kernel
theorem dd_M_init_33 : decode c_M_init 33 = .ok (.newarray .int, 2) := by decide +kernel
theorem dd_M_init_35 : decode c_M_init 35 = .ok (.putfield 19, 3) := by decide +kernel
theorem dd_M_init_38 : decode c_M_init 38 = .ok (.aload_n 0, 1) := by decide +kernel
theorem dd_M_init_39 : decode c_M_init 39 = .ok (.iconst 5, 1) := by decide +kernel
theorem dd_M_init_40 : decode c_M_init 40 = .ok (.newarray .int, 2) := by decide +kernel
theorem dd_M_init_42 : decode c_M_init 42 = .ok (.putfield 22, 3) := by decide +kernel
theorem dd_M_init_45 : decode c_M_init 45 = .ok (.aload_n 0, 1) := by decide +kernel
theorem dd_M_init_46 : decode c_M_init 46 = .ok (.sipush 700, 3) := by decide +kernel
theorem dd_M_init_49 : decode c_M_init 49 = .ok (.newarray .int, 2) := by decide +kernel
theorem dd_M_init_51 : decode c_M_init 51 = .ok (.putfield 25, 3) := by decide +kernel
theorem dd_M_init_54 : decode c_M_init 54 = .ok (.aload_n 0, 1) := by decide +kernel
theorem dd_M_init_55 : decode c_M_init 55 = .ok (.sipush 700, 3) := by decide +kernel
theorem dd_M_init_58 : decode c_M_init 58 = .ok (.newarray .int, 2) := by decide +kernel
theorem dd_M_init_60 : decode c_M_init 60 = .ok (.putfield 28, 3) := by decide +kernel
theorem dd_M_init_63 : decode c_M_init 63 = .ok (.aload_n 0, 1) := by decide +kernel
theorem dd_M_init_64 : decode c_M_init 64 = .ok (.sipush 700, 3) := by decide +kernel
theorem dd_M_init_67 : decode c_M_init 67 = .ok (.newarray .int, 2) := by decide +kernel
theorem dd_M_init_69 : decode c_M_init 69 = .ok (.putfield 31, 3) := by decide +kernel
theorem dd_M_init_72 : decode c_M_init 72 = .ok (.aload_n 0, 1) := by decide +kernel
theorem dd_M_init_73 : decode c_M_init 73 = .ok (.bipush 6, 2) := by decide +kernel
theorem dd_M_init_75 : decode c_M_init 75 = .ok (.newarray .int, 2) := by decide +kernel
theorem dd_M_init_77 : decode c_M_init 77 = .ok (.putfield 34, 3) := by decide +kernel
theorem dd_M_init_80 : decode c_M_init 80 = .ok (.aload_n 0, 1) := by decide +kernel
theorem dd_M_init_81 : decode c_M_init 81 = .ok (.bipush 80, 2) := by decide +kernel
theorem dd_M_init_83 : decode c_M_init 83 = .ok (.newarray .int, 2) := by decide +kernel
theorem dd_M_init_85 : decode c_M_init 85 = .ok (.putfield 37, 3) := by decide +kernel
theorem dd_M_init_88 : decode c_M_init 88 = .ok (.aload_n 0, 1) := by decide +kernel
theorem dd_M_init_89 : decode c_M_init 89 = .ok (.iconst 4, 1) := by decide +kernel
theorem dd_M_init_90 : decode c_M_init 90 = .ok (.newarray .int, 2) := by decide +kernel
theorem dd_M_init_92 : decode c_M_init 92 = .ok (.putfield 40, 3) := by decide +kernel
theorem dd_M_init_95 : decode c_M_init 95 = .ok (.aload_n 0, 1) := by decide +kernel
theorem dd_M_init_96 : decode c_M_init 96 = .ok (.bipush 18, 2) := by decide +kernel
theorem dd_M_init_98 : decode c_M_init 98 = .ok (.newarray .int, 2) := by decide +kernel
theorem dd_M_init_100 : decode c_M_init 100 = .ok (.putfield 43, 3) := by decide +kernel
theorem dd_M_init_103 : decode c_M_init 103 = .ok (.aload_n 0, 1) := by decide +kernel
theorem dd_M_init_104 : decode c_M_init 104 = .ok (.bipush 18, 2) := by decide +kernel
theorem dd_M_init_106 : decode c_M_init 106 = .ok (.newarray .int, 2) := by decide +kernel
theorem dd_M_init_108 : decode c_M_init 108 = .ok (.putfield 46, 3) := by decide +kernel
theorem dd_M_init_111 : decode c_M_init 111 = .ok (.aload_n 0, 1) := by decide +kernel
theorem dd_M_init_112 : decode c_M_init 112 = .ok (.iconst 4, 1) := by decide +kernel
theorem dd_M_init_113 : decode c_M_init 113 = .ok (.newarray .int, 2) := by decide +kernel
theorem dd_M_init_115 : decode c_M_init 115 = .ok (.putfield 49, 3) := by decide +kernel
theorem dd_M_init_118 : decode c_M_init 118 = .ok (.aload_n 0, 1) := by decide +kernel
theorem dd_M_init_119 : decode c_M_init 119 = .ok (.bipush 18, 2) := by decide +kernel
theorem dd_M_init_121 : decode c_M_init 121 = .ok (.newarray .int, 2) := by decide +kernel
theorem dd_M_init_123 : decode c_M_init 123 = .ok (.putfield 52, 3) := by decide +kernel
theorem dd_M_init_126 : decode c_M_init 126 = .ok (.aload_n 0, 1) := by decide +kernel
theorem dd_M_init_127 : decode c_M_init 127 = .ok (.bipush 18, 2) := by decide +kernel
theorem dd_M_init_129 : decode c_M_init 129 = .ok (.newarray .int, 2) := by decide +kernel
theorem dd_M_init_131 : decode c_M_init 131 = .ok (.putfield 55, 3) := by decide +kernel
theorem dd_M_init_134 : decode c_M_init 134 = .ok (.aload_n 0, 1) := by decide +kernel
theorem dd_M_init_135 : decode c_M_init 135 = .ok (.sipush 229, 3) := by decide +kernel
theorem dd_M_init_138 : decode c_M_init 138 = .ok (.newarray .int, 2) := by decide +kernel
theorem dd_M_init_140 : decode c_M_init 140 = .ok (.putfield 58, 3) := by decide +kernel
theorem dd_M_init_143 : decode c_M_init 143 = .ok (.aload_n 0, 1) := by decide +kernel
theorem dd_M_init_144 : decode c_M_init 144 = .ok (.iconst 5, 1) := by decide +kernel
theorem dd_M_init_145 : decode c_M_init 145 = .ok (.newarray .int, 2) := by decide +kernel
theorem dd_M_init_147 : decode c_M_init 147 = .ok (.putfield 61, 3) := by decide +kernel
theorem dd_M_init_150 : decode c_M_init 150 = .ok (.aload_n 0, 1) := by decide +kernel
theorem dd_M_init_151 : decode c_M_init 151 = .ok (.iconst (-1), 1) := by decide +kernel
theorem dd_M_init_152 : decode c_M_init 152 = .ok (.putfield 64, 3) := by decide +kernel
theorem dd_M_init_155 : decode c_M_init 155 = .ok (.aload_n 0, 1) := by decide +kernel
theorem dd_M_init_156 : decode c_M_init 156 = .ok (.iconst 2, 1) := by decide +kernel
theorem dd_M_init_157 : decode c_M_init 157 = .ok (.putfield 68, 3) := by decide +kernel
theorem dd_M_init_160 : decode c_M_init 160 = .ok (.aload_n 0, 1) := by decide +kernel
theorem dd_M_init_161 : decode c_M_init 161 = .ok (.sipush 9160, 3) := by decide +kernel
theorem dd_M_init_164 : decode c_M_init 164 = .ok (.newarray .int, 2) := by decide +kernel
theorem dd_M_init_166 : decode c_M_init 166 = .ok (.putfield 71, 3) := by decide +kernel
theorem dd_M_init_169 : decode c_M_init 169 = .ok (.aload_n 0, 1) := by decide +kernel
theorem dd_M_init_170 : decode c_M_init 170 = .ok (.sipush 144, 3) := by decide +kernel
theorem dd_M_init_173 : decode c_M_init 173 = .ok (.newarray .int, 2) := by decide +kernel
theorem dd_M_init_175 : decode c_M_init 175 = .ok (.putfield 74, 3) := by decide +kernel
theorem dd_M_init_178 : decode c_M_init 178 = .ok (.aload_n 0, 1) := by decide +kernel
theorem dd_M_init_179 : decode c_M_init 179 = .ok (.bipush 10, 2) := by decide +kernel
theorem dd_M_init_181 : decode c_M_init 181 = .ok (.newarray .int, 2) := by decide +kernel
theorem dd_M_init_183 : decode c_M_init 183 = .ok (.putfield 77, 3) := by decide +kernel
theorem dd_M_init_186 : decode c_M_init 186 = .ok (.aload_n 0, 1) := by decide +kernel
theorem dd_M_init_187 : decode c_M_init 187 = .ok (.bipush 10, 2) := by decide +kernel
theorem dd_M_init_189 : decode c_M_init 189 = .ok (.newarray .int, 2) := by decide +kernel
theorem dd_M_init_191 : decode c_M_init 191 = .ok (.putfield 80, 3) := by decide +kernel
theorem dd_M_init_194 : decode c_M_init 194 = .ok (.aload_n 0, 1) := by decide +kernel
theorem dd_M_init_195 : decode c_M_init 195 = .ok (.bipush 10, 2) := by decide +kernel
theorem dd_M_init_197 : decode c_M_init 197 = .ok (.newarray .boolean, 2) := by decide +kernel
theorem dd_M_init_199 : decode c_M_init 199 = .ok (.putfield 83, 3) := by decide +kernel
theorem dd_M_init_202 : decode c_M_init 202 = .ok (.aload_n 0, 1) := by decide +kernel
theorem dd_M_init_203 : decode c_M_init 203 = .ok (.sipush 229, 3) := by decide +kernel
theorem dd_M_init_206 : decode c_M_init 206 = .ok (.newarray .int, 2) := by decide +kernel
theorem dd_M_init_208 : decode c_M_init 208 = .ok (.putfield 87, 3) := by decide +kernel
theorem dd_M_init_211 : decode c_M_init 211 = .ok (.return_, 1) := by decide +kernel
