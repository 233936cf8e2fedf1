/-! ===== the memory of the system as one function, and the judgement X over it ===== -/
/-- what a cell holds: by its number, then by its slot -/
abbrev mj_M : Type := Nat → Nat → Int32
def mj_u (M : mj_M) (c k : Nat) (v : Int32) : mj_M := va_up M c (va_up (M c) k v)
def mj_a (M : mj_M) (c : Nat) (f : Nat → Int32) : mj_M := va_up M c f
def mj_hi (x : Int64) : Int32 := Int32.ofBitVec (x.toBitVec.extractLsb' 32 32)
def mj_lo (x : Int64) : Int32 := Int32.ofBitVec (x.toBitVec.extractLsb' 0 32)
def mj_cat (h k : Int32) : Int64 := Int64.ofBitVec (h.toBitVec ++ k.toBitVec)
abbrev mj_S : Type := (FieldType × Nat) ⊕ (Nat × List Nat)
def mj_R0 : String := "WinterTellers$Coast"
def mj_T0 : u_T := fun k => match k with
  | 0 => ("WinterTellers$Coast", "houses", "I", false)
  | 1 => ("WinterTellers$Coast", "tales", "I", false)
  | 2 => ("WinterTellers$Coast", "bread", "I", false)
  | 3 => ("WinterTellers$Coast", "owned", "I", false)
  | 4 => ("WinterTellers$Coast", "at", "I", false)
  | 5 => ("WinterTellers$Coast", "often", "I", false)
  | 6 => ("WinterTellers$Coast", "known", "[I", true)
  | 7 => ("WinterTellers$Coast", "curious", "[I", true)
  | 8 => ("WinterTellers$Coast", "warm", "[I", true)
  | 9 => ("WinterTellers$Coast", "lengths", "[I", true)
  | 10 => ("WinterTellers$Coast", "knots", "[I", true)
  | _ => ("WinterTellers$Coast", "truths", "[I", true)
def mj_t0 : Nat → FieldType := fun k => match k with
  | 0 => .int
  | 1 => .int
  | 2 => .int
  | 3 => .int
  | 4 => .int
  | 5 => .int
  | 6 => .array .int
  | 7 => .array .int
  | 8 => .array .int
  | 9 => .array .int
  | 10 => .array .int
  | _ => .array .int
def mj_R1 : String := "WinterTellers$CoastReader"
def mj_T1 : u_T := fun k => match k with
  | 0 => ("WinterTellers$CoastReader", "draft", "LWinterTellers$Coast;", true)
  | 1 => ("WinterTellers$CoastReader", "tape", "LWinterTellers$Tape;", true)
  | 2 => ("WinterTellers$CoastReader", "items", "[I", true)
  | _ => ("WinterTellers$CoastReader", "ruled", "Z", false)
def mj_t1 : Nat → FieldType := fun k => match k with
  | 0 => .object "WinterTellers$Coast"
  | 1 => .object "WinterTellers$Tape"
  | 2 => .array .int
  | _ => .boolean
def mj_R2 : String := "WinterTellers$Duel"
def mj_T2 : u_T := fun k => match k with
  | 0 => ("WinterTellers$Duel", "coast", "LWinterTellers$Coast;", true)
  | 1 => ("WinterTellers$Duel", "stays", "LWinterTellers$Stays;", true)
  | 2 => ("WinterTellers$Duel", "now", "[I", true)
  | _ => ("WinterTellers$Duel", "onceMore", "[I", true)
def mj_t2 : Nat → FieldType := fun k => match k with
  | 0 => .object "WinterTellers$Coast"
  | 1 => .object "WinterTellers$Stays"
  | 2 => .array .int
  | _ => .array .int
def mj_R3 : String := "WinterTellers$Guess"
def mj_T3 : u_T := fun k => match k with
  | 0 => ("WinterTellers$Guess", "sights", "I", false)
  | 1 => ("WinterTellers$Guess", "coast", "LWinterTellers$Coast;", true)
  | 2 => ("WinterTellers$Guess", "stays", "LWinterTellers$Stays;", true)
  | 3 => ("WinterTellers$Guess", "houses", "[I", true)
  | 4 => ("WinterTellers$Guess", "bounds", "[I", true)
  | _ => ("WinterTellers$Guess", "reached", "[Z", true)
def mj_t3 : Nat → FieldType := fun k => match k with
  | 0 => .int
  | 1 => .object "WinterTellers$Coast"
  | 2 => .object "WinterTellers$Stays"
  | 3 => .array .int
  | 4 => .array .int
  | _ => .array .boolean
def mj_R4 : String := "WinterTellers$LawReader"
def mj_T4 : u_T := fun k => match k with
  | 0 => ("WinterTellers$LawReader", "codes", "[I", true)
  | 1 => ("WinterTellers$LawReader", "size", "I", false)
  | _ => ("WinterTellers$LawReader", "tape", "LWinterTellers$Tape;", true)
def mj_t4 : Nat → FieldType := fun k => match k with
  | 0 => .array .int
  | 1 => .int
  | _ => .object "WinterTellers$Tape"
def mj_R5 : String := "WinterTellers$Laws"
def mj_T5 : u_T := fun k => match k with
  | 0 => ("WinterTellers$Laws", "known", "I", false)
  | 1 => ("WinterTellers$Laws", "holding", "I", false)
  | 2 => ("WinterTellers$Laws", "letters", "[I", true)
  | 3 => ("WinterTellers$Laws", "codes", "[I", true)
  | 4 => ("WinterTellers$Laws", "sizes", "[I", true)
  | _ => ("WinterTellers$Laws", "stack", "[I", true)
def mj_t5 : Nat → FieldType := fun k => match k with
  | 0 => .int
  | 1 => .int
  | 2 => .array .int
  | 3 => .array .int
  | 4 => .array .int
  | _ => .array .int
def mj_R6 : String := "WinterTellers$Past"
def mj_T6 : u_T := fun k => match k with
  | 0 => ("WinterTellers$Past", "kept", "I", false)
  | 1 => ("WinterTellers$Past", "imaged", "Z", false)
  | 2 => ("WinterTellers$Past", "next", "I", false)
  | 3 => ("WinterTellers$Past", "rows", "[I", true)
  | 4 => ("WinterTellers$Past", "imageRow", "[I", true)
  | _ => ("WinterTellers$Past", "imageTellings", "[I", true)
def mj_t6 : Nat → FieldType := fun k => match k with
  | 0 => .int
  | 1 => .boolean
  | 2 => .int
  | 3 => .array .int
  | 4 => .array .int
  | _ => .array .int
def mj_R7 : String := "WinterTellers$Plans"
def mj_T7 : u_T := fun k => match k with
  | 0 => ("WinterTellers$Plans", "bestTale", "I", false)
  | 1 => ("WinterTellers$Plans", "bestStay", "I", false)
  | 2 => ("WinterTellers$Plans", "row", "I", false)
  | 3 => ("WinterTellers$Plans", "sum", "I", false)
  | 4 => ("WinterTellers$Plans", "roundTellings", "I", false)
  | 5 => ("WinterTellers$Plans", "roundNights", "I", false)
  | 6 => ("WinterTellers$Plans", "roundBread", "I", false)
  | 7 => ("WinterTellers$Plans", "coast", "LWinterTellers$Coast;", true)
  | 8 => ("WinterTellers$Plans", "stand", "LWinterTellers$Stand;", true)
  | 9 => ("WinterTellers$Plans", "stays", "LWinterTellers$Stays;", true)
  | 10 => ("WinterTellers$Plans", "now", "[I", true)
  | 11 => ("WinterTellers$Plans", "onceMore", "[I", true)
  | 12 => ("WinterTellers$Plans", "roundHeard", "[I", true)
  | _ => ("WinterTellers$Plans", "mostFrom", "[I", true)
def mj_t7 : Nat → FieldType := fun k => match k with
  | 0 => .int
  | 1 => .int
  | 2 => .int
  | 3 => .int
  | 4 => .int
  | 5 => .int
  | 6 => .int
  | 7 => .object "WinterTellers$Coast"
  | 8 => .object "WinterTellers$Stand"
  | 9 => .object "WinterTellers$Stays"
  | 10 => .array .int
  | 11 => .array .int
  | 12 => .array .int
  | _ => .array .int
def mj_R8 : String := "WinterTellers$Stand"
def mj_T8 : u_T := fun k => match k with
  | 0 => ("WinterTellers$Stand", "at", "I", false)
  | 1 => ("WinterTellers$Stand", "owned", "I", false)
  | 2 => ("WinterTellers$Stand", "bread", "I", false)
  | 3 => ("WinterTellers$Stand", "day", "I", false)
  | 4 => ("WinterTellers$Stand", "nightsInAll", "I", false)
  | 5 => ("WinterTellers$Stand", "putOut", "I", false)
  | 6 => ("WinterTellers$Stand", "logged", "I", false)
  | 7 => ("WinterTellers$Stand", "knots", "[I", true)
  | 8 => ("WinterTellers$Stand", "heard", "[I", true)
  | _ => ("WinterTellers$Stand", "tellings", "[I", true)
def mj_t8 : Nat → FieldType := fun k => match k with
  | 0 => .int
  | 1 => .int
  | 2 => .int
  | 3 => .int
  | 4 => .int
  | 5 => .int
  | 6 => .int
  | 7 => .array .int
  | 8 => .array .int
  | _ => .array .int
def mj_R9 : String := "WinterTellers$Stays"
def mj_T9 : u_T := fun k => match k with
  | 0 => ("WinterTellers$Stays", "coast", "LWinterTellers$Coast;", true)
  | 1 => ("WinterTellers$Stays", "stand", "LWinterTellers$Stand;", true)
  | _ => ("WinterTellers$Stays", "laws", "LWinterTellers$Laws;", true)
def mj_t9 : Nat → FieldType := fun k => match k with
  | 0 => .object "WinterTellers$Coast"
  | 1 => .object "WinterTellers$Stand"
  | _ => .object "WinterTellers$Laws"
def mj_R10 : String := "WinterTellers$Tape"
def mj_T10 : u_T := fun k => match k with
  | 0 => ("WinterTellers$Tape", "signs", "[I", true)
  | 1 => ("WinterTellers$Tape", "size", "I", false)
  | 2 => ("WinterTellers$Tape", "place", "I", false)
  | _ => ("WinterTellers$Tape", "wrong", "I", false)
def mj_t10 : Nat → FieldType := fun k => match k with
  | 0 => .array .int
  | 1 => .int
  | 2 => .int
  | _ => .int
def mj_R11 : String := "WinterTellers"
def mj_T11 : u_T := fun k => match k with
  | 0 => ("WinterTellers", "tape", "LWinterTellers$Tape;", true)
  | 1 => ("WinterTellers", "coastReader", "LWinterTellers$CoastReader;", true)
  | 2 => ("WinterTellers", "lawReader", "LWinterTellers$LawReader;", true)
  | 3 => ("WinterTellers", "laws", "LWinterTellers$Laws;", true)
  | 4 => ("WinterTellers", "coast", "LWinterTellers$Coast;", true)
  | 5 => ("WinterTellers", "stand", "LWinterTellers$Stand;", true)
  | 6 => ("WinterTellers", "past", "LWinterTellers$Past;", true)
  | 7 => ("WinterTellers", "stays", "LWinterTellers$Stays;", true)
  | 8 => ("WinterTellers", "guess", "LWinterTellers$Guess;", true)
  | 9 => ("WinterTellers", "plans", "LWinterTellers$Plans;", true)
  | 10 => ("WinterTellers", "duel", "LWinterTellers$Duel;", true)
  | 11 => ("WinterTellers", "refused", "[I", true)
  | _ => ("WinterTellers", "whyBelow", "I", false)
def mj_t11 : Nat → FieldType := fun k => match k with
  | 0 => .object "WinterTellers$Tape"
  | 1 => .object "WinterTellers$CoastReader"
  | 2 => .object "WinterTellers$LawReader"
  | 3 => .object "WinterTellers$Laws"
  | 4 => .object "WinterTellers$Coast"
  | 5 => .object "WinterTellers$Stand"
  | 6 => .object "WinterTellers$Past"
  | 7 => .object "WinterTellers$Stays"
  | 8 => .object "WinterTellers$Guess"
  | 9 => .object "WinterTellers$Plans"
  | 10 => .object "WinterTellers$Duel"
  | 11 => .array .int
  | _ => .int
def mj_R12 : String := "WinterTellersModel"
def mj_T12 : u_T := fun k => match k with
  | 0 => ("WinterTellersModel", "thrown", "I", false)
  | 1 => ("WinterTellersModel", "tape", "[I", true)
  | 2 => ("WinterTellersModel", "size", "I", false)
  | 3 => ("WinterTellersModel", "at", "I", false)
  | 4 => ("WinterTellersModel", "wrong", "I", false)
  | 5 => ("WinterTellersModel", "deep", "I", false)
  | 6 => ("WinterTellersModel", "code", "[I", true)
  | 7 => ("WinterTellersModel", "value", "[I", true)
  | 8 => ("WinterTellersModel", "codes", "[I", true)
  | 9 => ("WinterTellersModel", "clauses", "[I", true)
  | 10 => ("WinterTellersModel", "testFrom", "[I", true)
  | 11 => ("WinterTellersModel", "sumFrom", "[I", true)
  | 12 => ("WinterTellersModel", "sumTo", "[I", true)
  | 13 => ("WinterTellersModel", "laws", "I", false)
  | 14 => ("WinterTellersModel", "text", "I", false)
  | 15 => ("WinterTellersModel", "letters", "[I", true)
  | 16 => ("WinterTellersModel", "stack", "[I", true)
  | 17 => ("WinterTellersModel", "readRule", "[I", true)
  | 18 => ("WinterTellersModel", "readHouse", "[I", true)
  | 19 => ("WinterTellersModel", "readTale", "[I", true)
  | 20 => ("WinterTellersModel", "readHouses", "I", false)
  | 21 => ("WinterTellersModel", "readTales", "I", false)
  | 22 => ("WinterTellersModel", "rule", "[I", true)
  | 23 => ("WinterTellersModel", "house", "[I", true)
  | 24 => ("WinterTellersModel", "tale", "[I", true)
  | 25 => ("WinterTellersModel", "houses", "I", false)
  | 26 => ("WinterTellersModel", "tales", "I", false)
  | 27 => ("WinterTellersModel", "now", "[I", true)
  | 28 => ("WinterTellersModel", "refused", "[I", true)
  | 29 => ("WinterTellersModel", "holding", "I", false)
  | 30 => ("WinterTellersModel", "curious", "I", false)
  | 31 => ("WinterTellersModel", "kept", "[I", true)
  | 32 => ("WinterTellersModel", "acts", "I", false)
  | 33 => ("WinterTellersModel", "draws", "J", false)
  | 34 => ("WinterTellersModel", "aside", "[I", true)
  | 35 => ("WinterTellersModel", "bestRow", "I", false)
  | 36 => ("WinterTellersModel", "bestMany", "I", false)
  | 37 => ("WinterTellersModel", "noteHouse", "[I", true)
  | 38 => ("WinterTellersModel", "noteNights", "[I", true)
  | 39 => ("WinterTellersModel", "noteIs", "[Z", true)
  | 40 => ("WinterTellersModel", "noted", "I", false)
  | 41 => ("WinterTellersModel", "goneHouses", "I", false)
  | 42 => ("WinterTellersModel", "goneNights", "I", false)
  | 43 => ("WinterTellersModel", "image", "[I", true)
  | _ => ("WinterTellersModel", "hasImage", "Z", false)
def mj_t12 : Nat → FieldType := fun k => match k with
  | 0 => .int
  | 1 => .array .int
  | 2 => .int
  | 3 => .int
  | 4 => .int
  | 5 => .int
  | 6 => .array .int
  | 7 => .array .int
  | 8 => .array .int
  | 9 => .array .int
  | 10 => .array .int
  | 11 => .array .int
  | 12 => .array .int
  | 13 => .int
  | 14 => .int
  | 15 => .array .int
  | 16 => .array .int
  | 17 => .array .int
  | 18 => .array .int
  | 19 => .array .int
  | 20 => .int
  | 21 => .int
  | 22 => .array .int
  | 23 => .array .int
  | 24 => .array .int
  | 25 => .int
  | 26 => .int
  | 27 => .array .int
  | 28 => .array .int
  | 29 => .int
  | 30 => .int
  | 31 => .array .int
  | 32 => .int
  | 33 => .long
  | 34 => .array .int
  | 35 => .int
  | 36 => .int
  | 37 => .array .int
  | 38 => .array .int
  | 39 => .array .boolean
  | 40 => .int
  | 41 => .int
  | 42 => .int
  | 43 => .array .int
  | _ => .boolean
abbrev mj_cl : List vw_C := [(mj_R0, mj_T0, 12), (mj_R1, mj_T1, 4), (mj_R2, mj_T2, 4), (mj_R3, mj_T3, 6), (mj_R4, mj_T4, 3), (mj_R5, mj_T5, 6), (mj_R6, mj_T6, 6), (mj_R7, mj_T7, 14), (mj_R8, mj_T8, 10), (mj_R9, mj_T9, 3), (mj_R10, mj_T10, 4), (mj_R11, mj_T11, 13), (mj_R12, mj_T12, 45)]
def mj_sh : List mj_S := [.inr (11, [4, 6, 8, 10, 15, 22, 26, 30, 31, 35, 40, 3, 0]), .inl (.int, 5), .inr (10, [5, 0, 0, 0]), .inl (.int, 240), .inr (1, [43, 4, 7, 0]), .inl (.int, 10), .inr (4, [9, 0, 4]), .inl (.int, 240), .inr (5, [0, 0, 11, 12, 13, 14]), .inl (.int, 6), .inl (.int, 960), .inl (.int, 4), .inl (.int, 32), .inr (0, [0, 0, 0, 0, 0, 0, 16, 17, 18, 19, 20, 21]), .inl (.int, 6), .inl (.int, 6), .inl (.int, 6), .inl (.int, 6), .inl (.int, 6), .inl (.int, 6), .inr (8, [0, 0, 0, 0, 0, 0, 0, 23, 24, 25]), .inl (.int, 6), .inl (.int, 36), .inl (.int, 100), .inr (6, [0, 0, 0, 27, 28, 29]), .inl (.int, 1960), .inl (.int, 49), .inl (.int, 100), .inr (9, [15, 22, 10]), .inr (3, [0, 15, 30, 32, 33, 34]), .inl (.int, 10), .inl (.int, 10), .inl (.boolean, 10), .inr (7, [0, 0, 0, 0, 0, 0, 0, 15, 22, 30, 36, 37, 38, 39]), .inl (.int, 36), .inl (.int, 36), .inl (.int, 36), .inl (.int, 448), .inr (2, [15, 30, 41, 42]), .inl (.int, 6), .inl (.int, 6), .inr (0, [0, 0, 0, 0, 0, 0, 44, 45, 46, 47, 48, 49]), .inl (.int, 6), .inl (.int, 6), .inl (.int, 6), .inl (.int, 6), .inl (.int, 6), .inl (.int, 6), .inr (12, [0, 51, 0, 0, 0, 0, 52, 53, 54, 55, 56, 57, 58, 0, 0, 59, 60, 61, 62, 63, 0, 0, 64, 65, 66, 0, 0, 67, 68, 0, 0, 69, 0, 1, 70, 0, 0, 71, 72, 73, 0, 0, 0, 74, 0]), .inl (.int, 240), .inl (.int, 2600), .inl (.int, 2600), .inl (.int, 5), .inl (.int, 5), .inl (.int, 700), .inl (.int, 700), .inl (.int, 700), .inl (.int, 6), .inl (.int, 80), .inl (.int, 4), .inl (.int, 18), .inl (.int, 18), .inl (.int, 4), .inl (.int, 18), .inl (.int, 18), .inl (.int, 229), .inl (.int, 5), .inl (.int, 9160), .inl (.int, 144), .inl (.int, 10), .inl (.int, 10), .inl (.boolean, 10), .inl (.int, 229), .inl (.long, 1)]
/-- the static arrays: class, name, descriptor, type, contents -/
def mj_st : List (String × String × String × FieldType × List Int32) := [("WinterTellers$CoastReader", "LETTERS", "[C", .char, [98, 109, 97, 111, 107, 99, 119, 108, 107, 114]), ("WinterTellers$CoastReader", "LOWS", "[I", .int, [0, 0, 0, 0, 0, 0, 0, 1, 0, 0]), ("WinterTellers$CoastReader", "HIGHS", "[I", .int, [99, 63, 5, 9, 63, 9, 9, 9, 9, 1]), ("WinterTellers$CoastReader", "WITHOUT", "[I", .int, [20, 63, 0, 1, 0, 3, 2, 4, 2, 0]), ("WinterTellers$LawReader", "LETTERS", "[C", .char, [108, 107, 99, 110, 119, 114])]
abbrev mj_TT : List Cond := lw_tbl.filter goodWord
theorem mj_tt {w : Cond} (h : w ∈ tables_1) (g : goodWord w = true) : w ∈ mj_TT := List.mem_filter.mpr ⟨List.mem_append_right _ h, g⟩
theorem mj_tp {w : Cond} (h : w ∈ k2_sels lw_privs) (g : goodWord w = true) : w ∈ mj_TT := List.mem_filter.mpr ⟨List.mem_append_left _ h, g⟩
theorem mj_n0 : ∀ a, a < 12 → ∀ b, b < 12 → a ≠ b → (mj_T0 a).2.1 ≠ (mj_T0 b).2.1 := by decide +kernel
theorem mj_y0 : ∀ k, k < 12 → parseFieldDescriptor (mj_T0 k).2.2.1 = some (mj_t0 k) := by decide +kernel
theorem mj_i0 : ∀ w ∈ u_ws mj_R0 mj_T0 12, w ∈ mj_TT := by
  intro w hw
  refine mj_tt ?_ (List.all_eq_true.mp (by decide +kernel : (u_ws mj_R0 mj_T0 12).all goodWord = true) w hw)
  have h : u_ws mj_R0 mj_T0 12 = [115, 117, 119, 121, 123, 125, 127, 129, 131, 133, 135, 137].filterMap (fun i => tables_1[i]?) := by decide +kernel
  rw [h] at hw
  obtain ⟨i, -, hi⟩ := List.mem_filterMap.mp hw
  exact List.mem_of_getElem? hi
theorem mj_n1 : ∀ a, a < 4 → ∀ b, b < 4 → a ≠ b → (mj_T1 a).2.1 ≠ (mj_T1 b).2.1 := by decide +kernel
theorem mj_y1 : ∀ k, k < 4 → parseFieldDescriptor (mj_T1 k).2.2.1 = some (mj_t1 k) := by decide +kernel
theorem mj_i1 : ∀ w ∈ u_ws mj_R1 mj_T1 4, w ∈ mj_TT := by
  intro w hw
  refine mj_tt ?_ (List.all_eq_true.mp (by decide +kernel : (u_ws mj_R1 mj_T1 4).all goodWord = true) w hw)
  have h : u_ws mj_R1 mj_T1 4 = [145, 147, 149, 151].filterMap (fun i => tables_1[i]?) := by decide +kernel
  rw [h] at hw
  obtain ⟨i, -, hi⟩ := List.mem_filterMap.mp hw
  exact List.mem_of_getElem? hi
theorem mj_n2 : ∀ a, a < 4 → ∀ b, b < 4 → a ≠ b → (mj_T2 a).2.1 ≠ (mj_T2 b).2.1 := by decide +kernel
theorem mj_y2 : ∀ k, k < 4 → parseFieldDescriptor (mj_T2 k).2.2.1 = some (mj_t2 k) := by decide +kernel
theorem mj_i2 : ∀ w ∈ u_ws mj_R2 mj_T2 4, w ∈ mj_TT := by
  intro w hw
  refine mj_tt ?_ (List.all_eq_true.mp (by decide +kernel : (u_ws mj_R2 mj_T2 4).all goodWord = true) w hw)
  have h : u_ws mj_R2 mj_T2 4 = [391, 393, 395, 397].filterMap (fun i => tables_1[i]?) := by decide +kernel
  rw [h] at hw
  obtain ⟨i, -, hi⟩ := List.mem_filterMap.mp hw
  exact List.mem_of_getElem? hi
theorem mj_n3 : ∀ a, a < 6 → ∀ b, b < 6 → a ≠ b → (mj_T3 a).2.1 ≠ (mj_T3 b).2.1 := by decide +kernel
theorem mj_y3 : ∀ k, k < 6 → parseFieldDescriptor (mj_T3 k).2.2.1 = some (mj_t3 k) := by decide +kernel
theorem mj_i3 : ∀ w ∈ u_ws mj_R3 mj_T3 6, w ∈ mj_TT := by
  intro w hw
  refine mj_tt ?_ (List.all_eq_true.mp (by decide +kernel : (u_ws mj_R3 mj_T3 6).all goodWord = true) w hw)
  have h : u_ws mj_R3 mj_T3 6 = [311, 313, 315, 317, 319, 321].filterMap (fun i => tables_1[i]?) := by decide +kernel
  rw [h] at hw
  obtain ⟨i, -, hi⟩ := List.mem_filterMap.mp hw
  exact List.mem_of_getElem? hi
theorem mj_n4 : ∀ a, a < 3 → ∀ b, b < 3 → a ≠ b → (mj_T4 a).2.1 ≠ (mj_T4 b).2.1 := by decide +kernel
theorem mj_y4 : ∀ k, k < 3 → parseFieldDescriptor (mj_T4 k).2.2.1 = some (mj_t4 k) := by decide +kernel
theorem mj_i4 : ∀ w ∈ u_ws mj_R4 mj_T4 3, w ∈ mj_TT := by
  intro w hw
  refine mj_tt ?_ (List.all_eq_true.mp (by decide +kernel : (u_ws mj_R4 mj_T4 3).all goodWord = true) w hw)
  have h : u_ws mj_R4 mj_T4 3 = [165, 167, 169].filterMap (fun i => tables_1[i]?) := by decide +kernel
  rw [h] at hw
  obtain ⟨i, -, hi⟩ := List.mem_filterMap.mp hw
  exact List.mem_of_getElem? hi
theorem mj_n5 : ∀ a, a < 6 → ∀ b, b < 6 → a ≠ b → (mj_T5 a).2.1 ≠ (mj_T5 b).2.1 := by decide +kernel
theorem mj_y5 : ∀ k, k < 6 → parseFieldDescriptor (mj_T5 k).2.2.1 = some (mj_t5 k) := by decide +kernel
theorem mj_i5 : ∀ w ∈ u_ws mj_R5 mj_T5 6, w ∈ mj_TT := by
  intro w hw
  refine mj_tt ?_ (List.all_eq_true.mp (by decide +kernel : (u_ws mj_R5 mj_T5 6).all goodWord = true) w hw)
  have h : u_ws mj_R5 mj_T5 6 = [188, 190, 192, 194, 196, 198].filterMap (fun i => tables_1[i]?) := by decide +kernel
  rw [h] at hw
  obtain ⟨i, -, hi⟩ := List.mem_filterMap.mp hw
  exact List.mem_of_getElem? hi
theorem mj_n6 : ∀ a, a < 6 → ∀ b, b < 6 → a ≠ b → (mj_T6 a).2.1 ≠ (mj_T6 b).2.1 := by decide +kernel
theorem mj_y6 : ∀ k, k < 6 → parseFieldDescriptor (mj_T6 k).2.2.1 = some (mj_t6 k) := by decide +kernel
theorem mj_i6 : ∀ w ∈ u_ws mj_R6 mj_T6 6, w ∈ mj_TT := by
  intro w hw
  refine mj_tt ?_ (List.all_eq_true.mp (by decide +kernel : (u_ws mj_R6 mj_T6 6).all goodWord = true) w hw)
  have h : u_ws mj_R6 mj_T6 6 = [269, 271, 273, 275, 277, 279].filterMap (fun i => tables_1[i]?) := by decide +kernel
  rw [h] at hw
  obtain ⟨i, -, hi⟩ := List.mem_filterMap.mp hw
  exact List.mem_of_getElem? hi
theorem mj_n7 : ∀ a, a < 14 → ∀ b, b < 14 → a ≠ b → (mj_T7 a).2.1 ≠ (mj_T7 b).2.1 := by decide +kernel
theorem mj_y7 : ∀ k, k < 14 → parseFieldDescriptor (mj_T7 k).2.2.1 = some (mj_t7 k) := by decide +kernel
theorem mj_i7 : ∀ w ∈ u_ws mj_R7 mj_T7 14, w ∈ mj_TT := by
  intro w hw
  refine mj_tt ?_ (List.all_eq_true.mp (by decide +kernel : (u_ws mj_R7 mj_T7 14).all goodWord = true) w hw)
  have h : u_ws mj_R7 mj_T7 14 = [352, 354, 356, 358, 360, 362, 364, 366, 368, 370, 372, 374, 376, 378].filterMap (fun i => tables_1[i]?) := by decide +kernel
  rw [h] at hw
  obtain ⟨i, -, hi⟩ := List.mem_filterMap.mp hw
  exact List.mem_of_getElem? hi
theorem mj_n8 : ∀ a, a < 10 → ∀ b, b < 10 → a ≠ b → (mj_T8 a).2.1 ≠ (mj_T8 b).2.1 := by decide +kernel
theorem mj_y8 : ∀ k, k < 10 → parseFieldDescriptor (mj_T8 k).2.2.1 = some (mj_t8 k) := by decide +kernel
theorem mj_i8 : ∀ w ∈ u_ws mj_R8 mj_T8 10, w ∈ mj_TT := by
  intro w hw
  refine mj_tt ?_ (List.all_eq_true.mp (by decide +kernel : (u_ws mj_R8 mj_T8 10).all goodWord = true) w hw)
  have h : u_ws mj_R8 mj_T8 10 = [234, 236, 238, 240, 242, 244, 246, 248, 250, 252].filterMap (fun i => tables_1[i]?) := by decide +kernel
  rw [h] at hw
  obtain ⟨i, -, hi⟩ := List.mem_filterMap.mp hw
  exact List.mem_of_getElem? hi
theorem mj_n9 : ∀ a, a < 3 → ∀ b, b < 3 → a ≠ b → (mj_T9 a).2.1 ≠ (mj_T9 b).2.1 := by decide +kernel
theorem mj_y9 : ∀ k, k < 3 → parseFieldDescriptor (mj_T9 k).2.2.1 = some (mj_t9 k) := by decide +kernel
theorem mj_i9 : ∀ w ∈ u_ws mj_R9 mj_T9 3, w ∈ mj_TT := by
  intro w hw
  refine mj_tt ?_ (List.all_eq_true.mp (by decide +kernel : (u_ws mj_R9 mj_T9 3).all goodWord = true) w hw)
  have h : u_ws mj_R9 mj_T9 3 = [291, 293, 295].filterMap (fun i => tables_1[i]?) := by decide +kernel
  rw [h] at hw
  obtain ⟨i, -, hi⟩ := List.mem_filterMap.mp hw
  exact List.mem_of_getElem? hi
theorem mj_n10 : ∀ a, a < 4 → ∀ b, b < 4 → a ≠ b → (mj_T10 a).2.1 ≠ (mj_T10 b).2.1 := by decide +kernel
theorem mj_y10 : ∀ k, k < 4 → parseFieldDescriptor (mj_T10 k).2.2.1 = some (mj_t10 k) := by decide +kernel
theorem mj_i10 : ∀ w ∈ u_ws mj_R10 mj_T10 4, w ∈ mj_TT := by
  intro w hw
  refine mj_tt ?_ (List.all_eq_true.mp (by decide +kernel : (u_ws mj_R10 mj_T10 4).all goodWord = true) w hw)
  have h : u_ws mj_R10 mj_T10 4 = [46, 48, 50, 52].filterMap (fun i => tables_1[i]?) := by decide +kernel
  rw [h] at hw
  obtain ⟨i, -, hi⟩ := List.mem_filterMap.mp hw
  exact List.mem_of_getElem? hi
theorem mj_n11 : ∀ a, a < 13 → ∀ b, b < 13 → a ≠ b → (mj_T11 a).2.1 ≠ (mj_T11 b).2.1 := by decide +kernel
theorem mj_y11 : ∀ k, k < 13 → parseFieldDescriptor (mj_T11 k).2.2.1 = some (mj_t11 k) := by decide +kernel
theorem mj_i11 : ∀ w ∈ u_ws mj_R11 mj_T11 13, w ∈ mj_TT := by
  intro w hw
  refine mj_tt ?_ (List.all_eq_true.mp (by decide +kernel : (u_ws mj_R11 mj_T11 13).all goodWord = true) w hw)
  have h : u_ws mj_R11 mj_T11 13 = [413, 415, 417, 419, 421, 423, 425, 427, 429, 431, 433, 435, 437].filterMap (fun i => tables_1[i]?) := by decide +kernel
  rw [h] at hw
  obtain ⟨i, -, hi⟩ := List.mem_filterMap.mp hw
  exact List.mem_of_getElem? hi
theorem mj_n12 : ∀ a, a < 45 → ∀ b, b < 45 → a ≠ b → (mj_T12 a).2.1 ≠ (mj_T12 b).2.1 := by decide +kernel
theorem mj_y12 : ∀ k, k < 45 → parseFieldDescriptor (mj_T12 k).2.2.1 = some (mj_t12 k) := by decide +kernel
theorem mj_i12 : ∀ w ∈ u_ws mj_R12 mj_T12 45, w ∈ mj_TT := by
  intro w hw
  refine mj_tt ?_ (List.all_eq_true.mp (by decide +kernel : (u_ws mj_R12 mj_T12 45).all goodWord = true) w hw)
  have h : u_ws mj_R12 mj_T12 45 = [1216, 1218, 1220, 1222, 1224, 1226, 1228, 1230, 1232, 1234, 1236, 1238, 1240, 1242, 1244, 1246, 1248, 1250, 1252, 1254, 1256, 1258, 1260, 1262, 1264, 1266, 1268, 1270, 1272, 1274, 1276, 1278, 1280, 1282, 1284, 1286, 1288, 1290, 1292, 1294, 1296, 1298, 1300, 1302, 1304].filterMap (fun i => tables_1[i]?) := by decide +kernel
  rw [h] at hw
  obtain ⟨i, -, hi⟩ := List.mem_filterMap.mp hw
  exact List.mem_of_getElem? hi
