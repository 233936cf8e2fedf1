/-! ===== laws: what one is worth, on both sides ===== -/
def lI (a : Int) : Int64 := Int64.ofInt a
theorem lI_T {a : Int} (h : -2 ^ 63 ≤ a) (h' : a < 2 ^ 63) : (lI a).toInt = a := Int64.toInt_ofInt_of_le h h'
theorem lI_add (a b : Int) : lI a + lI b = lI (a + b) := (Int64.ofInt_add ..).symm
theorem lI_sub (a b : Int) : lI a - lI b = lI (a - b) := (Int64.ofInt_sub ..).symm
theorem lI_mul (a b : Int) : lI a * lI b = lI (a * b) := (Int64.ofInt_mul ..).symm
theorem lI_i (a : Int) : (lI a).toInt32 = iI a := Int64.toInt32_ofInt
theorem lI_of {a : Int} (h : -2 ^ 31 ≤ a) (h' : a < 2 ^ 31) : (iI a).toInt64 = lI a :=
  Int32.toInt64_ofInt (by show -2147483648 ≤ a; omega) (by show a ≤ 2147483647; omega)
theorem lI_div {a b : Int} (h : -2 ^ 63 ≤ a) (h' : a < 2 ^ 63) (k : -2 ^ 63 ≤ b) (k' : b < 2 ^ 63) : lI a / lI b = lI (a.tdiv b) :=
  (Int64.ofInt_tdiv (by show -9223372036854775808 ≤ a; omega) (by show a ≤ 9223372036854775807; omega) (by show -9223372036854775808 ≤ b; omega) (by show b ≤ 9223372036854775807; omega)).symm
theorem iI_div {a b : Int} (h : -2 ^ 31 ≤ a) (h' : a < 2 ^ 31) (k : -2 ^ 31 ≤ b) (k' : b < 2 ^ 31) : iI a / iI b = iI (a.tdiv b) :=
  (Int32.ofInt_tdiv (by show -2147483648 ≤ a; omega) (by show a ≤ 2147483647; omega) (by show -2147483648 ≤ b; omega) (by show b ≤ 2147483647; omega)).symm
theorem lI_lt {a b : Int} (h : -2 ^ 63 ≤ a) (h' : a < 2 ^ 63) (k : -2 ^ 63 ≤ b) (k' : b < 2 ^ 63) : (lI a < lI b) = (a < b) := by
  rw [eq_iff_iff, Int64.lt_iff_toInt_lt, lI_T h h', lI_T k k']
theorem lI_eq {a b : Int} (h : -2 ^ 63 ≤ a) (h' : a < 2 ^ 63) (k : -2 ^ 63 ≤ b) (k' : b < 2 ^ 63) : (lI a = lI b) = (a = b) := by
  refine propext ⟨fun e => ?_, fun e => by rw [e]⟩
  have := congrArg Int64.toInt e
  rwa [lI_T h h', lI_T k k'] at this
theorem lI_cle {a b : Int} (h : -2 ^ 63 ≤ a) (h' : a < 2 ^ 63) (k : -2 ^ 63 ≤ b) (k' : b < 2 ^ 63) : (lg_cmp (lI a) (lI b) ≤ 0) = (a ≤ b) := by
  unfold lg_cmp
  simp only [gt_iff_lt]; simp only [lI_lt k k' h h']; simp only [lI_eq h h' k k']
  rcases Int.lt_trichotomy a b with c | c | c
  · rw [if_neg (by omega), if_neg (by omega)]; exact propext ⟨fun _ => by omega, fun _ => by decide +kernel⟩
  · rw [if_neg (by omega), if_pos (by omega)]; exact propext ⟨fun _ => by omega, fun _ => by decide +kernel⟩
  · rw [if_pos (by omega)]; exact propext ⟨fun e => absurd e (by decide +kernel), fun _ => by omega⟩
theorem lI_cge {a b : Int} (h : -2 ^ 63 ≤ a) (h' : a < 2 ^ 63) (k : -2 ^ 63 ≤ b) (k' : b < 2 ^ 63) : ((0 : Int32) ≤ lg_cmp (lI a) (lI b)) = (b ≤ a) := by
  unfold lg_cmp
  simp only [gt_iff_lt]; simp only [lI_lt k k' h h']; simp only [lI_eq h h' k k']
  rcases Int.lt_trichotomy a b with c | c | c
  · rw [if_neg (by omega), if_neg (by omega)]; exact propext ⟨fun e => absurd e (by decide +kernel), fun _ => by omega⟩
  · rw [if_neg (by omega), if_pos (by omega)]; exact propext ⟨fun _ => by omega, fun _ => by decide +kernel⟩
  · rw [if_pos (by omega)]; exact propext ⟨fun _ => by omega, fun _ => by decide +kernel⟩
theorem lI_ceq {a b : Int} (h : -2 ^ 63 ≤ a) (h' : a < 2 ^ 63) (k : -2 ^ 63 ≤ b) (k' : b < 2 ^ 63) : (lg_cmp (lI a) (lI b) = 0) = (a = b) := by
  unfold lg_cmp
  simp only [gt_iff_lt]; simp only [lI_lt k k' h h']; simp only [lI_eq h h' k k']
  rcases Int.lt_trichotomy a b with c | c | c
  · rw [if_neg (by omega), if_neg (by omega)]; exact propext ⟨fun e => absurd e (by decide +kernel), fun _ => by omega⟩
  · rw [if_neg (by omega), if_pos (by omega)]; exact propext ⟨fun _ => by omega, fun _ => by decide +kernel⟩
  · rw [if_pos (by omega)]; exact propext ⟨fun e => absurd e (by decide +kernel), fun _ => by omega⟩
def mk_b (v : Int) : Int := if 1000000 < v then 1000000 else if v < -1000000 then -1000000 else v
theorem mk_b_in (v : Int) : -1000000 ≤ mk_b v ∧ mk_b v ≤ 1000000 := by unfold mk_b; split <;> (try split) <;> omega
def mk_wk (op : Nat) (a b : Int) : Int :=
  if op = 2 then mk_b (a + b) else if op = 3 then mk_b (a - b) else if op = 4 then mk_b (a * b)
  else if op = 5 then (if b = 0 then 0 else a.tdiv b)
  else if op = 6 then (if a = b then 1 else 0) else if op = 7 then (if a < b then 1 else 0) else if op = 8 then (if b < a then 1 else 0)
  else if op = 10 then (if a = 0 then 0 else if b = 0 then 0 else 1) else (if a = 0 then (if b = 0 then 0 else 1) else 1)
def mk_t1 (L : Nat → Int) (st : List Int) (q : mk_T) : List Int :=
  if q.1 = 0 then (q.2 : Int) :: st else if q.1 = 1 then L q.2 :: st
  else if q.1 = 9 then (match st with | a :: r => (1 - a) :: r | [] => [])
  else (match st with | b :: a :: r => mk_wk q.1 a b :: r | r => r)
def mk_ev (L : Nat → Int) : List Int → List mk_T → List Int
  | st, [] => st
  | st, q :: l => mk_ev L (mk_t1 L st q) l
def mk_val (L : Nat → Int) (q : List mk_T) : Int := (mk_ev L [] q).headD 0
def mk_wo (L : Nat → Int) : List mk_C → Int
  | [] => 0
  | q :: C => if q.1 = [] ∨ mk_val L q.1 ≠ 0 then mk_val L q.2 else mk_wo L C
def mk_okv : List Bool → List Int → Prop
  | [], [] => True
  | b :: ts, a :: st => ((b = true → a = 0 ∨ a = 1) ∧ -1000000 ≤ a ∧ a ≤ 1000000) ∧ mk_okv ts st
  | _, _ => False
def mk_sk (f : Nat → Int32) : List Int → Prop
  | [] => True
  | a :: st => f st.length = iI a ∧ mk_sk f st
theorem mk_okv_len : ∀ (ts : List Bool) (st : List Int), mk_okv ts st → ts.length = st.length
  | [], [], _ => rfl
  | _ :: ts, _ :: st, h => by rw [List.length_cons, List.length_cons, mk_okv_len ts st h.2]
  | [], _ :: _, h => h.elim
  | _ :: _, [], h => h.elim
theorem mk_sk_up {f : Nat → Int32} {k : Nat} {v : Int32} : ∀ (st : List Int), st.length ≤ k → mk_sk f st → mk_sk (va_up f k v) st
  | [], _, _ => trivial
  | _ :: st, h, hs => by
    rw [List.length_cons] at h
    exact ⟨by rw [mj_up_ne _ _ _ (by omega)]; exact hs.1, mk_sk_up st (by omega) hs.2⟩
theorem mk_div_in {a b : Int} (h : -1000000 ≤ a) (h' : a ≤ 1000000) : -1000000 ≤ a.tdiv b ∧ a.tdiv b ≤ 1000000 := by
  have h1 : (a.tdiv b).natAbs ≤ a.natAbs := by rw [Int.natAbs_tdiv]; exact Nat.div_le_self ..
  omega
theorem mk_held {v : Int} (h : -2 ^ 62 ≤ v) (h' : v < 2 ^ 62) (M : mj_M) : F_Laws_held (lI v) M = some (iI (mk_b v), M) := by
  unfold F_Laws_held mk_b
  show (if lg_cmp (lI v) (lI 1000000) ≤ 0 then if 0 ≤ lg_cmp (lI v) (lI (-1000000)) then some ((lI v).toInt32, M) else some (iI (-1000000), M) else some (iI 1000000, M)) = _
  simp (disch := omega) only [lI_cle]; simp (disch := omega) only [lI_cge]; rw [lI_i]
  by_cases c : v ≤ 1000000
  · by_cases d : -1000000 ≤ v
    · rw [if_pos c, if_pos d, if_neg (show ¬ 1000000 < v by omega), if_neg (show ¬ v < -1000000 by omega)]
    · rw [if_pos c, if_neg d, if_neg (show ¬ 1000000 < v by omega), if_pos (show v < -1000000 by omega)]
  · rw [if_neg c, if_pos (show 1000000 < v by omega)]
theorem mk_bounded {v : Int} (h : -2 ^ 62 ≤ v) (h' : v < 2 ^ 62) (M : mj_M) : F_M_bounded (lI v) M = some (iI (mk_b v), M) := by
  unfold F_M_bounded mk_b
  show some ((mj_lmax (lI (-1000000)) (mj_lmin (lI 1000000) (lI v))).toInt32, M) = _
  unfold mj_lmax mj_lmin
  simp (disch := omega) only [lI_lt]
  by_cases c : v < 1000000
  · rw [if_pos c, if_neg (show ¬ 1000000 < v by omega)]; simp (disch := omega) only [lI_lt]
    by_cases d : v < -1000000
    · rw [if_pos d, if_pos d, lI_i]
    · rw [if_neg d, if_neg d, lI_i]
  · rw [if_neg c]; simp (disch := omega) only [lI_lt]; rw [if_neg (show ¬ (1000000 : Int) < -1000000 by omega), lI_i]
    by_cases d : 1000000 < v
    · rw [if_pos d]
    · rw [if_neg d, if_neg (by omega), show v = 1000000 by omega]
/-- operands as their code wants them -/
def mk_ok2 (op : Nat) (a b : Int) : Prop := (2 ≤ op ∧ op ≤ 11 ∧ op ≠ 9) ∧ (-1000000 ≤ a ∧ a ≤ 1000000) ∧ (-1000000 ≤ b ∧ b ≤ 1000000) ∧ (9 < op → (a = 0 ∨ a = 1) ∧ (b = 0 ∨ b = 1))
theorem mk_mul_in {a b : Int} (h : -1000000 ≤ a ∧ a ≤ 1000000) (k : -1000000 ≤ b ∧ b ≤ 1000000) : -2 ^ 62 ≤ a * b ∧ a * b < 2 ^ 62 := by
  have h1 : (a * b).natAbs ≤ 1000000 * 1000000 := by rw [Int.natAbs_mul]; exact Nat.mul_le_mul (by omega) (by omega)
  omega
theorem mk_wk_in {op : Nat} {a b : Int} (h : mk_ok2 op a b) : (5 < op → mk_wk op a b = 0 ∨ mk_wk op a b = 1) ∧ -1000000 ≤ mk_wk op a b ∧ mk_wk op a b ≤ 1000000 := by
  obtain ⟨h0, h1, h2, h3⟩ := h
  unfold mk_wk
  have e1 := mk_b_in (a + b)
  have e2 := mk_b_in (a - b)
  have e3 := mk_b_in (a * b)
  have e4 := mk_div_in (b := b) h1.1 h1.2
  refine ⟨fun h9 => ?_, ?_⟩
  · rw [if_neg (by omega), if_neg (by omega), if_neg (by omega), if_neg (by omega)]
    repeat' split
    all_goals simp
  · repeat' split
    all_goals first | omega | (constructor <;> omega)
theorem mk_wk2 (a b : Int) : mk_wk 2 a b = mk_b (a + b) := by simp [mk_wk]
theorem mk_wk3 (a b : Int) : mk_wk 3 a b = mk_b (a - b) := by simp [mk_wk]
theorem mk_wk4 (a b : Int) : mk_wk 4 a b = mk_b (a * b) := by simp [mk_wk]
theorem mk_wk5 (a b : Int) : mk_wk 5 a b = (if b = 0 then 0 else a.tdiv b) := by simp [mk_wk]
theorem mk_wk6 (a b : Int) : mk_wk 6 a b = (if a = b then 1 else 0) := by simp [mk_wk]
theorem mk_wk7 (a b : Int) : mk_wk 7 a b = (if a < b then 1 else 0) := by simp [mk_wk]
theorem mk_wk8 (a b : Int) : mk_wk 8 a b = (if b < a then 1 else 0) := by simp [mk_wk]
theorem mk_wk10 (a b : Int) : mk_wk 10 a b = (if a = 0 then 0 else if b = 0 then 0 else 1) := by simp [mk_wk]
theorem mk_wk11 (a b : Int) : mk_wk 11 a b = (if a = 0 then (if b = 0 then 0 else 1) else 1) := by simp [mk_wk]
theorem mk_joined {op : Nat} {a b : Int} (h : mk_ok2 op a b) (M : mj_M) : F_Laws_joined (nI (mk_sg op)) (iI a) (iI b) M = some (iI (mk_wk op a b), M) := by
  obtain ⟨h0, h1, h2, h3⟩ := h
  have h9 : op = 2 ∨ op = 3 ∨ op = 4 ∨ op = 5 ∨ op = 6 ∨ op = 7 ∨ op = 8 ∨ op = 10 ∨ op = 11 := by omega
  have hm := mk_mul_in h1 h2
  rcases h9 with rfl | rfl | rfl | rfl | rfl | rfl | rfl | rfl | rfl
  · rw [mk_wk2]
    show F_Laws_joined 43 _ _ _ = _
    unfold F_Laws_joined
    rw [if_neg (by decide +kernel), if_neg (by decide +kernel), if_pos rfl, iI_add, lI_of (by omega) (by omega), mk_held (by omega) (by omega)]
    rfl
  · rw [mk_wk3]
    show F_Laws_joined 45 _ _ _ = _
    unfold F_Laws_joined
    rw [if_neg (by decide +kernel), if_neg (by decide +kernel), if_neg (by decide +kernel), if_pos rfl, iI_sub, lI_of (by omega) (by omega), mk_held (by omega) (by omega)]
    rfl
  · rw [mk_wk4]
    show F_Laws_joined 42 _ _ _ = _
    unfold F_Laws_joined
    rw [if_neg (by decide +kernel), if_pos rfl, lI_of (by omega) (by omega), lI_of (by omega) (by omega), lI_mul, mk_held (by omega) (by omega)]
    rfl
  · rw [mk_wk5]
    show F_Laws_joined 47 _ _ _ = _
    unfold F_Laws_joined
    rw [if_neg (by decide +kernel), if_neg (by decide +kernel), if_neg (by decide +kernel), if_neg (by decide +kernel), if_pos rfl]
    show (if iI b = iI 0 then some (iI 0, M) else if iI b = iI 0 then none else some (iI a / iI b, M)) = some (iI (if b = 0 then 0 else a.tdiv b), M)
    simp (disch := omega) only [iI_eq]
    by_cases c : b = 0
    · rw [if_pos c, if_pos c]
    · rw [if_neg c, if_neg c, if_neg c, iI_div (by omega) (by omega) (by omega) (by omega)]
  · rw [mk_wk6]
    show F_Laws_joined 61 _ _ _ = _
    unfold F_Laws_joined
    rw [if_neg (by decide +kernel), if_neg (by decide +kernel), if_neg (by decide +kernel), if_neg (by decide +kernel), if_neg (by decide +kernel), if_neg (by decide +kernel), if_pos rfl]; simp (disch := omega) only [iI_eq]
    show (if a = b then some (iI 1, M) else some (iI 0, M)) = some (iI (if a = b then 1 else 0), M)
    split <;> rfl
  · rw [mk_wk7]
    show F_Laws_joined 60 _ _ _ = _
    unfold F_Laws_joined
    rw [if_neg (by decide +kernel), if_neg (by decide +kernel), if_neg (by decide +kernel), if_neg (by decide +kernel), if_neg (by decide +kernel), if_pos rfl]; simp (disch := omega) only [iI_le]
    show (if b ≤ a then some (iI 0, M) else some (iI 1, M)) = some (iI (if a < b then 1 else 0), M)
    by_cases c : a < b
    · rw [if_neg (by omega), if_pos c]
    · rw [if_pos (by omega), if_neg c]
  · rw [mk_wk8]
    show F_Laws_joined 62 _ _ _ = _
    unfold F_Laws_joined
    rw [if_neg (by decide +kernel), if_neg (by decide +kernel), if_neg (by decide +kernel), if_neg (by decide +kernel), if_neg (by decide +kernel), if_neg (by decide +kernel), if_neg (by decide +kernel), if_pos rfl]; simp (disch := omega) only [iI_le]
    show (if a ≤ b then some (iI 0, M) else some (iI 1, M)) = some (iI (if b < a then 1 else 0), M)
    by_cases c : b < a
    · rw [if_neg (by omega), if_pos c]
    · rw [if_pos (by omega), if_neg c]
  · rw [mk_wk10]
    show F_Laws_joined 38 _ _ _ = _
    unfold F_Laws_joined
    rw [if_pos rfl]
    obtain ⟨ha | ha, hb | hb⟩ := h3 (by omega) <;> subst ha <;> subst hb <;> rfl
  · rw [mk_wk11]
    show F_Laws_joined 124 _ _ _ = _
    unfold F_Laws_joined
    rw [if_neg (by decide +kernel), if_neg (by decide +kernel), if_neg (by decide +kernel), if_neg (by decide +kernel), if_neg (by decide +kernel), if_neg (by decide +kernel), if_neg (by decide +kernel), if_neg (by decide +kernel)]
    obtain ⟨ha | ha, hb | hb⟩ := h3 (by omega) <;> subst ha <;> subst hb <;> rfl
theorem mk_worked {op : Nat} {a b : Int} (h : mk_ok2 op a b) (M : mj_M) : F_M_worked (nI op) (iI a).toInt64 (iI b).toInt64 M = some (iI (mk_wk op a b), M) := by
  obtain ⟨h0, h1, h2, h3⟩ := h
  have h9 : op = 2 ∨ op = 3 ∨ op = 4 ∨ op = 5 ∨ op = 6 ∨ op = 7 ∨ op = 8 ∨ op = 10 ∨ op = 11 := by omega
  have hm := mk_mul_in h1 h2
  have hd := mk_div_in (b := b) h1.1 h1.2
  rw [lI_of (by omega) (by omega), lI_of (by omega) (by omega)]
  rcases h9 with rfl | rfl | rfl | rfl | rfl | rfl | rfl | rfl | rfl
  · rw [mk_wk2]
    show F_M_worked 2 _ _ _ = _
    unfold F_M_worked
    rw [if_pos rfl, lI_add, mk_bounded (by omega) (by omega)]
    rfl
  · rw [mk_wk3]
    show F_M_worked 3 _ _ _ = _
    unfold F_M_worked
    rw [if_neg (by decide +kernel), if_pos rfl, lI_sub, mk_bounded (by omega) (by omega)]
    rfl
  · rw [mk_wk4]
    show F_M_worked 4 _ _ _ = _
    unfold F_M_worked
    rw [if_neg (by decide +kernel), if_neg (by decide +kernel), if_pos rfl, lI_mul, mk_bounded (by omega) (by omega)]
    rfl
  · rw [mk_wk5]
    show F_M_worked 5 _ _ _ = _
    unfold F_M_worked
    rw [if_neg (by decide +kernel), if_neg (by decide +kernel), if_neg (by decide +kernel), if_pos rfl]
    show (if lg_cmp (lI b) (lI 0) = 0 then some (iI 0, M) else if lI b = lI 0 then none else (F_M_bounded (lI a / lI b) M).bind _) = some (iI (if b = 0 then 0 else a.tdiv b), M)
    simp (disch := omega) only [lI_ceq]; simp (disch := omega) only [lI_eq]
    by_cases c : b = 0
    · rw [if_pos c, if_pos c]
    · rw [if_neg c, if_neg c, if_neg c, lI_div (by omega) (by omega) (by omega) (by omega), mk_bounded (by omega) (by omega)]
      show some (iI (mk_b (a.tdiv b)), M) = _
      unfold mk_b
      rw [if_neg (by omega), if_neg (by omega)]
  · rw [mk_wk6]
    show F_M_worked 6 _ _ _ = _
    unfold F_M_worked
    rw [if_neg (by decide +kernel), if_neg (by decide +kernel), if_neg (by decide +kernel), if_neg (by decide +kernel), if_pos rfl]; simp (disch := omega) only [lI_ceq]
    show (if a = b then some (iI 1, M) else some (iI 0, M)) = some (iI (if a = b then 1 else 0), M)
    split <;> rfl
  · rw [mk_wk7]
    show F_M_worked 7 _ _ _ = _
    unfold F_M_worked
    rw [if_neg (by decide +kernel), if_neg (by decide +kernel), if_neg (by decide +kernel), if_neg (by decide +kernel), if_neg (by decide +kernel), if_pos rfl]; simp (disch := omega) only [lI_cge]
    show (if b ≤ a then some (iI 0, M) else some (iI 1, M)) = some (iI (if a < b then 1 else 0), M)
    by_cases c : a < b
    · rw [if_neg (by omega), if_pos c]
    · rw [if_pos (by omega), if_neg c]
  · rw [mk_wk8]
    show F_M_worked 8 _ _ _ = _
    unfold F_M_worked
    rw [if_neg (by decide +kernel), if_neg (by decide +kernel), if_neg (by decide +kernel), if_neg (by decide +kernel), if_neg (by decide +kernel), if_neg (by decide +kernel), if_pos rfl]; simp (disch := omega) only [lI_cle]
    show (if a ≤ b then some (iI 0, M) else some (iI 1, M)) = some (iI (if b < a then 1 else 0), M)
    by_cases c : b < a
    · rw [if_neg (by omega), if_pos c]
    · rw [if_pos (by omega), if_neg c]
  · rw [mk_wk10]
    show F_M_worked 10 _ _ _ = _
    unfold F_M_worked
    rw [if_neg (by decide +kernel), if_neg (by decide +kernel), if_neg (by decide +kernel), if_neg (by decide +kernel), if_neg (by decide +kernel), if_neg (by decide +kernel), if_neg (by decide +kernel), if_pos rfl]
    show (if lg_cmp (lI a) (lI 0) = 0 then some (iI 0, M) else if lg_cmp (lI b) (lI 0) = 0 then some (iI 0, M) else some (iI 1, M)) = some (iI (if a = 0 then 0 else if b = 0 then 0 else 1), M)
    simp (disch := omega) only [lI_ceq]
    split
    · rfl
    · split <;> rfl
  · rw [mk_wk11]
    show F_M_worked 11 _ _ _ = _
    unfold F_M_worked
    rw [if_neg (by decide +kernel), if_neg (by decide +kernel), if_neg (by decide +kernel), if_neg (by decide +kernel), if_neg (by decide +kernel), if_neg (by decide +kernel), if_neg (by decide +kernel), if_neg (by decide +kernel)]
    show (if lg_cmp (lI a) (lI 0) = 0 then if lg_cmp (lI b) (lI 0) = 0 then some (iI 0, M) else some (iI 1, M) else some (iI 1, M)) = some (iI (if a = 0 then if b = 0 then 0 else 1 else 1), M)
    simp (disch := omega) only [lI_ceq]
    split
    · split <;> rfl
    · rfl
