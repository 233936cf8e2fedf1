/-! ===== laws: the two stacks ===== -/
theorem mk_sgs : ∀ op, op < 12 → (op ≠ 0 → nI (mk_sg op) ≠ 48) ∧ (op ≠ 1 → nI (mk_sg op) ≠ 108) ∧ nI (mk_sg op) ≠ 121 ∧ (op ≠ 9 → nI (mk_sg op) ≠ 33) ∧ nI (mk_sg op) ≠ 63 ∧ mk_sg op < 128 := by decide +kernel
theorem mk_cdv {q : mk_T} (h : q.1 < 12) (hv : q.2 ≤ 9999) : nI (mk_cd q) &&& (127 : Int32) = nI (mk_sg q.1) ∧ nI (mk_cd q) >>> ((7 : Int32) &&& 31) = nI q.2 := by
  obtain ⟨-, -, -, -, -, h6⟩ := mk_sgs q.1 h
  unfold mk_cd
  constructor
  · rw [pk_andN (by omega) 7 (by decide +kernel), show (q.2 * 128 + mk_sg q.1) % 2 ^ 7 = mk_sg q.1 by omega]
  · rw [pk_shrN (by omega) _ 7 (by decide +kernel), show (q.2 * 128 + mk_sg q.1) / 2 ^ 7 = q.2 by omega]
/-- the kinds that a token wants -/
theorem mk_tc_inv {ts ts' : List Bool} {q : mk_T} (h : mk_tc ts q = some ts') : q.2 ≤ 9999 ∧ ((q.1 ≤ 1 ∧ ts.length < 32 ∧ (q.1 = 1 → q.2 < 6) ∧ ts' = false :: ts) ∨ (q.1 = 9 ∧ ∃ r, ts = true :: r ∧ ts' = true :: r) ∨ (2 ≤ q.1 ∧ q.1 ≤ 11 ∧ q.1 ≠ 9 ∧ ∃ b r, ts = b :: b :: r ∧ ts' = decide (5 < q.1) :: r ∧ (9 < q.1 → b = true))) := by
  unfold mk_tc at h
  by_cases c : 9999 < q.2
  · rw [if_pos c] at h; cases h
  rw [if_neg c] at h
  refine ⟨by omega, ?_⟩
  by_cases c0 : q.1 ≤ 1
  · rw [if_pos c0] at h
    by_cases c1 : ts.length < 32 ∧ (q.1 = 1 → q.2 < 6)
    · rw [if_pos c1] at h
      exact Or.inl ⟨c0, c1.1, c1.2, (Option.some.inj h).symm⟩
    · rw [if_neg c1] at h; cases h
  rw [if_neg c0] at h
  by_cases c1 : q.1 ≤ 5
  · rw [if_pos c1] at h
    split at h
    · exact Or.inr (Or.inr ⟨by omega, by omega, by omega, false, _, rfl, by rw [← Option.some.inj h, decide_eq_false (by omega)], fun h => by omega⟩)
    · cases h
  rw [if_neg c1] at h
  by_cases c2 : q.1 ≤ 8
  · rw [if_pos c2] at h
    split at h
    · exact Or.inr (Or.inr ⟨by omega, by omega, by omega, false, _, rfl, by rw [← Option.some.inj h, decide_eq_true (by omega)], fun h => by omega⟩)
    · cases h
  rw [if_neg c2] at h
  by_cases c3 : q.1 = 9
  · rw [if_pos c3] at h
    split at h
    · exact Or.inr (Or.inl ⟨c3, _, rfl, (Option.some.inj h).symm⟩)
    · cases h
  rw [if_neg c3] at h
  by_cases c4 : q.1 ≤ 11
  · rw [if_pos c4] at h
    split at h
    · exact Or.inr (Or.inr ⟨by omega, by omega, by omega, true, _, rfl, by rw [← Option.some.inj h, decide_eq_true (by omega)], fun _ => rfl⟩)
    · cases h
  rw [if_neg c4] at h
  cases h
theorem mk_okv1 {b : Bool} {r : List Bool} {st : List Int} (h : mk_okv (b :: r) st) : ∃ a s, st = a :: s ∧ (b = true → a = 0 ∨ a = 1) ∧ -1000000 ≤ a ∧ a ≤ 1000000 ∧ mk_okv r s := by
  cases st with
  | nil => exact h.elim
  | cons a s => exact ⟨a, s, rfl, h.1.1, h.1.2.1, h.1.2.2, h.2⟩
def mk_lt6 (f : Nat → Int32) (L : Nat → Int) : Prop := ∀ i, i < 6 → f i = iI (L i) ∧ -1000000 ≤ L i ∧ L i ≤ 1000000
theorem mk_t1_ok {L : Nat → Int} {f : Nat → Int32} (hL : mk_lt6 f L) {ts ts' : List Bool} {st : List Int} {q : mk_T} (ht : mk_tc ts q = some ts') (ho : mk_okv ts st) : mk_okv ts' (mk_t1 L st q) := by
  obtain ⟨hv, h⟩ := mk_tc_inv ht
  rcases h with ⟨c0, c1, c2, rfl⟩ | ⟨c0, r, rfl, rfl⟩ | ⟨c0, c1, c2, b, r, rfl, rfl, c3⟩
  · unfold mk_t1
    by_cases c : q.1 = 0
    · rw [if_pos c]
      exact ⟨⟨fun h => (by cases h), by omega, by omega⟩, ho⟩
    · rw [if_neg c, if_pos (by omega)]
      have := hL q.2 (c2 (by omega))
      exact ⟨⟨fun h => (by cases h), this.2.1, this.2.2⟩, ho⟩
  · obtain ⟨a, s, rfl, h1, h2, h3, h4⟩ := mk_okv1 ho
    unfold mk_t1
    rw [if_neg (by omega), if_neg (by omega), if_pos c0]
    have := h1 rfl
    exact ⟨⟨fun _ => (by omega), by omega, by omega⟩, h4⟩
  · obtain ⟨y, s, rfl, h1, h2, h3, h4⟩ := mk_okv1 ho
    obtain ⟨x, s, rfl, k1, k2, k3, k4⟩ := mk_okv1 h4
    unfold mk_t1
    rw [if_neg (by omega), if_neg (by omega), if_neg (by omega)]
    have := mk_wk_in (op := q.1) (a := x) (b := y) ⟨⟨c0, c1, c2⟩, ⟨k2, k3⟩, ⟨h2, h3⟩, fun h => ⟨k1 (c3 h), h1 (c3 h)⟩⟩
    exact ⟨⟨fun h => this.1 (of_decide_eq_true h), this.2⟩, k4⟩
theorem mk_xt {N n : Nat} {L : Nat → Int} {M : mj_M} {ts ts' : List Bool} {st : List Int} {q : mk_T} {p stop : Nat} (hL : mk_lt6 (M 9) L) (ht : mk_tc ts q = some ts') (ho : mk_okv ts st) (h32 : ts.length ≤ 32) (hs : mk_sk (M 12) st) (hc : M 10 p = nI (mk_cd q)) (hp : p < stop) (h9 : stop ≤ 960) : ∃ M', F_Laws_worth_b49 N (n + 1) (nI stop) (nI st.length) 0 (nI p) M = F_Laws_worth_b49 N n (nI stop) (nI (mk_t1 L st q).length) 0 (nI (p + 1)) M' ∧ (∀ c, c ≠ 12 → M' c = M c) ∧ mk_sk (M' 12) (mk_t1 L st q) := by
  have hl := mk_okv_len _ _ ho
  obtain ⟨hv, h⟩ := mk_tc_inv ht
  have h12 : q.1 < 12 := by omega
  obtain ⟨e1, e2⟩ := mk_cdv h12 hv
  obtain ⟨g0, g1, g2, g3, g4, g5⟩ := mk_sgs q.1 h12
  rw [F_Laws_worth_b49]
  simp only [mj_lt]
  rw [if_neg (nI_ge hp (by omega)), nw_ck (by omega) (by omega), nI_clamp (by omega), hc, e1, if_pos trivial]
  rcases h with ⟨c0, c1, c2, rfl⟩ | ⟨c0, r, rfl, rfl⟩ | ⟨c0, c1, c2, b, r, rfl, rfl, c3⟩
  · have hb : ∀ v : Int, F_Laws_operand (nI (mk_sg q.1)) (nI q.2) M = some (iI v, M) → F_Laws_worth_b103 N (F_Laws_worth_b49 N n) (nI stop) (nI st.length) 0 (nI p) (nI (mk_sg q.1)) M = F_Laws_worth_b49 N n (nI stop) (nI (st.length + 1)) 0 (nI (p + 1)) (mj_u M 12 st.length (iI v)) := by
      intro v hv
      unfold F_Laws_worth_b103
      simp only [mj_lt]
      rw [if_pos (show nI st.length < (32 : Int32) from nI_lt (b := 32) (by omega) (by omega)), nw_ck (by omega) (by omega), nI_clamp (by omega), hc, e2, hv]
      simp only [Option.bind_some]
      rw [nw_ck (by omega) (by omega), nI_clamp (by omega), nI_1, nI_1]
    have fin : ∀ v : Int, mk_t1 L st q = v :: st → F_Laws_operand (nI (mk_sg q.1)) (nI q.2) M = some (iI v, M) → ∃ M', F_Laws_worth_b103 N (F_Laws_worth_b49 N n) (nI stop) (nI st.length) 0 (nI p) (nI (mk_sg q.1)) M = F_Laws_worth_b49 N n (nI stop) (nI (mk_t1 L st q).length) 0 (nI (p + 1)) M' ∧ (∀ c, c ≠ 12 → M' c = M c) ∧ mk_sk (M' 12) (mk_t1 L st q) := by
      intro v e hv
      rw [e]
      refine ⟨_, hb v hv, fun c hc => nw_u9 _ hc, ?_⟩
      rw [mj_u_eq]
      exact ⟨mj_up_eq .., mk_sk_up _ (Nat.le_refl _) hs⟩
    by_cases c : q.1 = 0
    · rw [if_pos (show nI (mk_sg q.1) = 48 by rw [c]; rfl)]
      refine fin q.2 (by unfold mk_t1; rw [if_pos c]) ?_
      unfold F_Laws_operand
      rw [if_pos (show nI (mk_sg q.1) = 48 by rw [c]; rfl), iI_n]
    · have c' : q.1 = 1 := by omega
      have h6 := c2 c'
      rw [if_neg (g0 c), if_pos (show nI (mk_sg q.1) = 108 by rw [c']; rfl)]
      refine fin (L q.2) (by unfold mk_t1; rw [if_neg c, if_pos c']) ?_
      unfold F_Laws_operand
      rw [if_neg (g0 c), if_neg (nI_pos (by omega)), if_neg (show ¬ (6 : Int32) ≤ nI q.2 from nI_ge (b := 6) h6 (by omega)), nw_ck h6 (by omega), nI_clamp (by omega), (hL q.2 h6).1]
  · obtain ⟨a, s, rfl, h1, h2, h3, h4⟩ := mk_okv1 ho
    rw [List.length_cons] at hl h32
    rw [if_neg (g0 (by omega)), if_neg (g1 (by omega)), List.length_cons, if_neg (nI_ne0 (by omega) (by rw [List.length_cons] at hl; omega)), if_neg g2, if_pos (show nI (mk_sg q.1) = 33 by rw [c0]; rfl)]
    rw [List.length_cons] at hl
    rw [nI_pred, nw_ck (by omega) (by omega), nw_ck (by omega) (by omega), nI_clamp (by omega), hs.1, show (1 : Int32) - iI a = iI (1 - a) from iI_sub 1 a, nI_1]
    have e : mk_t1 L (a :: s) q = (1 - a) :: s := by unfold mk_t1; rw [if_neg (by omega), if_neg (by omega), if_pos c0]
    rw [e]
    refine ⟨_, rfl, fun c hc => nw_u9 _ hc, ?_⟩
    rw [mj_u_eq]
    exact ⟨mj_up_eq .., mk_sk_up _ (Nat.le_refl _) hs.2⟩
  · obtain ⟨y, s, rfl, h1, h2, h3, h4⟩ := mk_okv1 ho
    obtain ⟨x, s, rfl, k1, k2, k3, k4⟩ := mk_okv1 h4
    have hj := mk_joined (op := q.1) (a := x) (b := y) ⟨⟨c0, c1, c2⟩, ⟨k2, k3⟩, ⟨h2, h3⟩, fun h => ⟨k1 (c3 h), h1 (c3 h)⟩⟩ M
    simp only [List.length_cons] at hl h32 ⊢
    rw [if_neg (g0 (by omega)), if_neg (g1 (by omega)), if_neg (nI_ne0 (by omega) (by omega)), if_neg g2, if_neg (g3 c2), if_neg g4, pk_m1, if_neg (nI_nle (by omega) (by omega)), nI_pred, nw_ck (by omega) (by omega), nw_ck (by omega) (by omega), nI_clamp (by omega), nI_clamp (by omega)]
    have q1 : M 12 s.length = iI x := hs.2.1
    have q2 : M 12 (s.length + 1) = iI y := hs.1
    rw [q1, q2, hj]
    simp only [Option.bind_some]
    rw [nw_ck (by omega) (by omega), nI_1]
    have e : mk_t1 L (y :: x :: s) q = mk_wk q.1 x y :: s := by unfold mk_t1; rw [if_neg (by omega), if_neg (by omega), if_neg (by omega)]
    rw [e]
    refine ⟨_, rfl, fun c hc => nw_u9 _ hc, ?_⟩
    rw [mj_u_eq]
    exact ⟨mj_up_eq .., mk_sk_up _ (Nat.le_refl _) hs.2.2⟩
theorem mk_mt {N n : Nat} {L : Nat → Int} {M : mj_M} {ts ts' : List Bool} {st : List Int} {q : mk_T} {p b to : Nat} (hL : mk_lt6 (M 57) L) (ht : mk_tc ts q = some ts') (ho : mk_okv ts st) (h32 : ts.length ≤ 32) (hs : mk_sk (M 58) st) (hc : M 50 p = nI q.1) (hc' : M 51 p = nI q.2) (hp : p < 520 * b + to) (h9 : 520 * b + to ≤ 2600) : ∃ M', F_M_workOut_b12 N (n + 1) (nI b) (nI to) (nI st.length) (nI p) M = F_M_workOut_b12 N n (nI b) (nI to) (nI (mk_t1 L st q).length) (nI (p + 1)) M' ∧ (∀ c, c ≠ 58 → M' c = M c) ∧ mk_sk (M' 58) (mk_t1 L st q) := by
  have hl := mk_okv_len _ _ ho
  obtain ⟨hv, h⟩ := mk_tc_inv ht
  have h12 : q.1 < 12 := by omega
  rw [F_M_workOut_b12]
  simp only [mj_lt]
  rw [show ((520 : Int32) * nI b) + nI to = nI (520 * b + to) by rw [nl_520, pk_mul, nI_add], if_neg (nI_ge hp (by omega))]
  simp only [nw_ck (show p < 2600 by omega) (show 2600 < 2 ^ 31 by omega)]
  rw [nI_clamp (show p < 2 ^ 31 by omega), hc]
  rcases h with ⟨c0, c1, c2, rfl⟩ | ⟨c0, r, rfl, rfl⟩ | ⟨c0, c1, c2, bb, r, rfl, rfl, c3⟩
  · by_cases c : q.1 = 0
    · have e : mk_t1 L st q = (q.2 : Int) :: st := by unfold mk_t1; rw [if_pos c]
      rw [c, if_pos (show nI 0 = 0 from rfl), e]
      unfold F_M_workOut_b45
      simp only [mj_lt]
      simp only [nw_ck (show p < 2600 by omega) (show 2600 < 2 ^ 31 by omega)]
      rw [nI_clamp (show p < 2 ^ 31 by omega), hc, c, if_pos (show nI 0 = 0 from rfl), nw_ck (by omega) (by omega), nI_clamp (by omega), hc', nI_1, nI_1]
      refine ⟨_, rfl, fun c hc => nw_u9 _ hc, ?_⟩
      rw [mj_u_eq]
      exact ⟨by rw [mj_up_eq, iI_n], mk_sk_up _ (Nat.le_refl _) hs⟩
    · have c' : q.1 = 1 := by omega
      have h6 := c2 c'
      have e : mk_t1 L st q = L q.2 :: st := by unfold mk_t1; rw [if_neg c, if_pos c']
      rw [c', if_neg (by decide +kernel), if_pos (show nI 1 = 1 from rfl), e]
      unfold F_M_workOut_b45
      simp only [mj_lt]
      simp only [nw_ck (show p < 2600 by omega) (show 2600 < 2 ^ 31 by omega)]
      rw [nI_clamp (show p < 2 ^ 31 by omega), hc, c', if_neg (by decide +kernel), hc', nw_ck h6 (by omega), nw_ck (by omega) (by omega), nI_clamp (by omega), nI_clamp (by omega), (hL q.2 h6).1, nI_1, nI_1]
      refine ⟨_, rfl, fun c hc => nw_u9 _ hc, ?_⟩
      rw [mj_u_eq]
      exact ⟨mj_up_eq .., mk_sk_up _ (Nat.le_refl _) hs⟩
  · obtain ⟨a, s, rfl, h1, h2, h3, h4⟩ := mk_okv1 ho
    simp only [List.length_cons] at hl h32 ⊢
    rw [c0, if_neg (by decide +kernel), if_neg (by decide +kernel), if_pos (show nI 9 = 9 from rfl), nI_pred, nw_ck (by omega) (by omega), nw_ck (by omega) (by omega), nI_clamp (by omega), hs.1, show (1 : Int32) - iI a = iI (1 - a) from iI_sub 1 a, nI_1]
    have e : mk_t1 L (a :: s) q = (1 - a) :: s := by unfold mk_t1; rw [if_neg (by omega), if_neg (by omega), if_pos c0]
    rw [e]
    refine ⟨_, rfl, fun c hc => nw_u9 _ hc, ?_⟩
    rw [mj_u_eq]
    exact ⟨mj_up_eq .., mk_sk_up _ (Nat.le_refl _) hs.2⟩
  · obtain ⟨y, s, rfl, h1, h2, h3, h4⟩ := mk_okv1 ho
    obtain ⟨x, s, rfl, k1, k2, k3, k4⟩ := mk_okv1 h4
    have hj := mk_worked (op := q.1) (a := x) (b := y) ⟨⟨c0, c1, c2⟩, ⟨k2, k3⟩, ⟨h2, h3⟩, fun h => ⟨k1 (c3 h), h1 (c3 h)⟩⟩ M
    simp only [List.length_cons] at hl h32 ⊢
    rw [if_neg (nI_ne0 (by omega) (by omega)), if_neg (show ¬ nI q.1 = (1 : Int32) by rw [nl_1, nw_eq (by omega) (by omega)]; omega), if_neg (show ¬ nI q.1 = (9 : Int32) by rw [nl_9, nw_eq (by omega) (by omega)]; omega), pk_m1, nI_pred, nw_ck (by omega) (by omega), nw_ck (by omega) (by omega), nI_clamp (by omega), nI_clamp (by omega)]
    have q1 : M 58 s.length = iI x := hs.2.1
    have q2 : M 58 (s.length + 1) = iI y := hs.1
    rw [q1, q2, hj]
    simp only [Option.bind_some]
    rw [nw_ck (by omega) (by omega), nI_1]
    have e : mk_t1 L (y :: x :: s) q = mk_wk q.1 x y :: s := by unfold mk_t1; rw [if_neg (by omega), if_neg (by omega), if_neg (by omega)]
    rw [e]
    refine ⟨_, rfl, fun c hc => nw_u9 _ hc, ?_⟩
    rw [mj_u_eq]
    exact ⟨mj_up_eq .., mk_sk_up _ (Nat.le_refl _) hs.2.2⟩
