/-! ===== the pure side: the tape, a reader's way ===== -/
theorem mj_uu {M : mj_M} {c k : Nat} {a b : Int32} : mj_u (mj_u M c k a) c k b = mj_u M c k b := by
  funext d
  by_cases e : d = c
  · subst e
    rw [mj_u_eq, mj_u_eq, mj_u_eq]
    funext j
    by_cases f : j = k
    · rw [f, mj_up_eq, mj_up_eq]
    · rw [mj_up_ne _ _ _ f, mj_up_ne _ _ _ f, mj_up_ne _ _ _ f]
  · rw [nw_u9 _ e, nw_u9 _ e, nw_u9 _ e]
theorem mj_us_ {M : mj_M} {c k : Nat} {a : Int32} (h : M c k = a) : mj_u M c k a = M := by
  funext d
  by_cases e : d = c
  · subst e
    rw [mj_u_eq]
    funext j
    by_cases f : j = k
    · rw [f, mj_up_eq, h]
    · rw [mj_up_ne _ _ _ f]
  · rw [nw_u9 _ e]
theorem mj_ux {M : mj_M} {c d k j : Nat} {a b : Int32} (h : ¬ (c = d ∧ k = j)) : mj_u (mj_u M c k a) d j b = mj_u (mj_u M d j b) c k a := by
  funext e
  by_cases e1 : e = c
  · subst e1
    by_cases e2 : e = d
    · subst e2
      have hk : k ≠ j := fun x => h ⟨rfl, x⟩
      rw [mj_u_eq, mj_u_eq, mj_u_eq, mj_u_eq]
      funext i
      by_cases f : i = k
      · rw [f, mj_up_ne _ _ _ hk, mj_up_eq, mj_up_eq]
      · by_cases g : i = j
        · rw [g, mj_up_eq, mj_up_ne _ _ _ (Ne.symm hk), mj_up_eq]
        · rw [mj_up_ne _ _ _ g, mj_up_ne _ _ _ f, mj_up_ne _ _ _ f, mj_up_ne _ _ _ g]
    · rw [nw_u9 _ e2, mj_u_eq, mj_u_eq, nw_u9 _ e2]
  · by_cases e2 : e = d
    · subst e2
      rw [mj_u_eq, nw_u9 _ e1, nw_u9 _ e1, mj_u_eq]
    · rw [nw_u9 _ e2, nw_u9 _ e1, nw_u9 _ e1, nw_u9 _ e2]
theorem mk_nm1 {w : Nat} (h : w < 2 ^ 31) : ¬ nI w = (-1 : Int32) := fun e => cast (nw_eqm h) e
/-- the signs: numbers of a tape of a size -/
def mk_tp (τ : Nat → Nat) (z : Nat) : Prop := z ≤ 240 ∧ ∀ k, k < z → 0 < τ k ∧ τ k < 256
def mk_sqd (τ : Nat → Nat) (z : Nat) : Nat → Nat → Nat
  | 0, p => p
  | d + 1, p => if p < z ∧ τ p = 32 then mk_sqd τ z d (p + 1) else p
/-- the next place that is no blank -/
def mk_sq (τ : Nat → Nat) (z p : Nat) : Nat := mk_sqd τ z (z - p) p
/-- the sign at a place; behind the end 0 -/
def mk_c0 (τ : Nat → Nat) (z p : Nat) : Nat := if p < z then τ p else 0
def mk_ch (τ : Nat → Nat) (z p : Nat) : Nat := mk_c0 τ z (mk_sq τ z p)
def mk_mc (c : Nat) : Int32 := if c = 0 then -nI 1 else nI c
theorem mk_sqd_in (τ : Nat → Nat) (z : Nat) : ∀ d p, p ≤ mk_sqd τ z d p ∧ mk_sqd τ z d p ≤ max p z
  | 0, p => by rw [mk_sqd]; omega
  | d + 1, p => by
    rw [mk_sqd]
    by_cases c : p < z ∧ τ p = 32
    · rw [if_pos c]
      have := mk_sqd_in τ z d (p + 1)
      omega
    · rw [if_neg c]
      omega
theorem mk_sq_in (τ : Nat → Nat) (z p : Nat) : p ≤ mk_sq τ z p ∧ mk_sq τ z p ≤ max p z := mk_sqd_in ..
theorem mk_sq_st {τ : Nat → Nat} {z p : Nat} (h : p < z ∧ τ p = 32) : mk_sq τ z p = mk_sq τ z (p + 1) := by
  unfold mk_sq
  rw [show z - p = (z - (p + 1)) + 1 by omega, mk_sqd, if_pos h]
theorem mk_sq_no {τ : Nat → Nat} {z p : Nat} (h : ¬ (p < z ∧ τ p = 32)) : mk_sq τ z p = p := by
  unfold mk_sq
  cases z - p with
  | zero => rfl
  | succ d => rw [mk_sqd, if_neg h]
theorem mk_sq_fix (τ : Nat → Nat) (z : Nat) : ∀ d p, z - p = d → mk_sq τ z (mk_sq τ z p) = mk_sq τ z p := by
  intro d
  induction d with
  | zero => intro p h; rw [mk_sq_no (p := p) (by omega), mk_sq_no (p := p) (by omega)]
  | succ d ih =>
    intro p h
    by_cases c : p < z ∧ τ p = 32
    · rw [mk_sq_st c]; exact ih (p + 1) (by omega)
    · rw [mk_sq_no c, mk_sq_no c]
theorem mk_sq2 (τ : Nat → Nat) (z p : Nat) : mk_sq τ z (mk_sq τ z p) = mk_sq τ z p := mk_sq_fix τ z _ p rfl
theorem mk_c0_lt {τ : Nat → Nat} {z : Nat} (h : mk_tp τ z) (p : Nat) : mk_c0 τ z p < 256 := by
  unfold mk_c0
  split
  · rename_i c; exact (h.2 p c).2
  · omega
theorem mk_c0_0 {τ : Nat → Nat} {z : Nat} (h : mk_tp τ z) (p : Nat) : mk_c0 τ z p = 0 ↔ z ≤ p := by
  unfold mk_c0
  by_cases c : p < z
  · rw [if_pos c]
    have := h.2 p c
    omega
  · rw [if_neg c]
    omega
theorem mk_ch32 {τ : Nat → Nat} {z : Nat} (h : mk_tp τ z) (p : Nat) : mk_ch τ z p ≠ 32 := by
  unfold mk_ch
  intro e
  have h1 := mk_sq2 τ z p
  unfold mk_c0 at e
  by_cases c : mk_sq τ z p < z
  · rw [if_pos c] at e
    have := mk_sq_st ⟨c, e⟩
    rw [h1] at this
    have h2 := (mk_sq_in τ z (mk_sq τ z p + 1)).1
    omega
  · rw [if_neg c] at e; omega
theorem mk_mc_eq {c s : Nat} (hc : c < 256) (hs : 0 < s) (hs2 : s < 256) : (mk_mc c = nI s) = (c = s) := by
  unfold mk_mc
  by_cases e : c = 0
  · rw [if_pos e]
    simp (disch := omega) only [nw_meq]
    refine (eq_false ?_).symm
    omega
  · rw [if_neg e]
    simp (disch := omega) only [nw_eq]
theorem mk_mc_m1 {c : Nat} (hc : c < 256) : (mk_mc c = -nI 1) = (c = 0) := by
  unfold mk_mc
  by_cases e : c = 0
  · rw [if_pos e]
    exact propext ⟨fun _ => e, fun _ => rfl⟩
  · rw [if_neg e]
    simp (disch := omega) only [nw_eqm]
    exact (eq_false e).symm
section Tape
variable {N : Nat} {τ : Nat → Nat} {z : Nat} {M : mj_M}
/-- the written side's tape -/
def mk_xt1 (τ : Nat → Nat) (z : Nat) (M : mj_M) : Prop := mk_tp τ z ∧ M 2 1 = nI z ∧ ∀ k, k < z → M 3 k = nI (τ k)
def mk_mt1 (τ : Nat → Nat) (z : Nat) (M : mj_M) : Prop := mk_tp τ z ∧ M 48 2 = nI z ∧ ∀ k, k < z → M 49 k = nI (τ k)
theorem mk_Xskip (h : mk_xt1 τ z M) (hN : 1000 ≤ N) {p : Nat} (hp : p ≤ z) : F_Tape_skipBlanks N (mj_u M 2 2 (nI p)) = some (mj_u M 2 2 (nI (mk_sq τ z p))) := by
  obtain ⟨h1, h2, h3⟩ := h
  have hz := h1.1
  have key : ∀ d p n, p + d = z → d < n → F_Tape_skipBlanks_b0 N n (mj_u M 2 2 (nI p)) = some (mj_u M 2 2 (nI (mk_sq τ z p))) := by
    intro d
    induction d with
    | zero =>
      intro p n hp hn
      obtain ⟨n, rfl⟩ : ∃ k, n = k + 1 := ⟨n - 1, by omega⟩
      rw [F_Tape_skipBlanks_b0, mj_u_eq, mj_up_eq, mj_up_ne _ _ _ (by omega), h2, if_pos (nI_le (by omega) (by omega)), mk_sq_no (by omega)]
    | succ d ih =>
      intro p n hp hn
      obtain ⟨n, rfl⟩ : ∃ k, n = k + 1 := ⟨n - 1, by omega⟩
      have hb := h1.2 p (by omega)
      rw [F_Tape_skipBlanks_b0, mj_u_eq, mj_up_eq, mj_up_ne _ _ _ (by omega), h2, if_neg (nI_ge (by omega) (by omega)), nw_ck (by omega) (by omega), nI_clamp (by omega), nw_u9 _ (by omega), h3 p (by omega), nl_32]
      simp (disch := omega) only [nw_eq, mj_lt]
      by_cases c : τ p = 32
      · rw [if_pos c, nI_1, mj_uu, ih (p + 1) n (by omega) (by omega), mk_sq_st ⟨by omega, c⟩]
      · rw [if_neg c, mk_sq_no (fun k => c k.2)]
  unfold F_Tape_skipBlanks
  exact key (z - p) p N (by omega) (by omega)
theorem mk_Xpeek (h : mk_xt1 τ z M) (hN : 1000 ≤ N) {p : Nat} (hp : p ≤ z) (hw : M 2 3 = -nI 1) : F_Tape_peek N (mj_u M 2 2 (nI p)) = some (nI (mk_ch τ z p), mj_u M 2 2 (nI (mk_sq τ z p))) := by
  have hz := h.1.1
  have hs := mk_sq_in τ z p
  unfold F_Tape_peek
  rw [mj_u_eq, mj_up_ne _ _ _ (by omega), hw, if_pos (show -nI 1 = (-1 : Int32) from rfl), mk_Xskip h hN hp]
  simp only [mk_bs]
  rw [mj_u_eq, mj_up_eq, mj_up_ne _ _ _ (by omega), h.2.1]
  unfold mk_ch mk_c0
  simp (disch := omega) only [nw_le]
  by_cases c : mk_sq τ z p < z
  · rw [if_neg (by omega), if_pos c, nw_ck (by omega) (by omega), nI_clamp (by omega), nw_u9 _ (by omega), h.2.2 _ c]
  · rw [if_pos (by omega), if_neg c]
    rfl
theorem mk_Xpeek0 {w : Nat} (hw : M 2 3 = nI w) (hw3 : w < 2 ^ 31) : F_Tape_peek N M = some (0, M) := by
  unfold F_Tape_peek
  rw [hw, if_neg (mk_nm1 hw3)]
theorem mk_Xfail (hw : M 2 3 = -nI 1) (x : Int32) : F_Tape_fail x M = some (mj_u M 2 3 x) := by
  unfold F_Tape_fail
  rw [hw, if_pos (show -nI 1 = (-1 : Int32) from rfl)]
  rfl
theorem mk_Xfail0 {w : Nat} (hw : M 2 3 = nI w) (hw3 : w < 2 ^ 31) (x : Int32) : F_Tape_fail x M = some M := by
  unfold F_Tape_fail
  rw [hw, if_neg (mk_nm1 hw3)]
theorem mk_Mhere (h : mk_mt1 τ z M) {p : Nat} (hp : p < 100000) : F_M_here (mj_u M 48 3 (nI p)) = some (mk_mc (mk_c0 τ z p), mj_u M 48 3 (nI p)) := by
  have hz := h.1.1
  unfold F_M_here
  rw [mj_u_eq, mj_up_eq, mj_up_ne _ _ _ (by omega), h.2.1]
  simp (disch := omega) only [nw_le]
  unfold mk_mc mk_c0
  by_cases c : p < z
  · have hb := h.1.2 p c
    rw [if_neg (by omega), nw_ck (by omega) (by omega), nI_clamp (by omega), nw_u9 _ (by omega), h.2.2 p c, if_pos c, if_neg (by omega)]
  · rw [if_pos (by omega), if_neg c, if_pos rfl]
    rfl
theorem mk_Mlook (h : mk_mt1 τ z M) (hN : 1000 ≤ N) {p : Nat} (hp : p < 90000) : F_M_look N (mj_u M 48 3 (nI p)) = some (mk_mc (mk_ch τ z p), mj_u M 48 3 (nI (mk_sq τ z p))) := by
  have hz := h.1.1
  have key : ∀ d p n, z - p = d → d < n → p < 90000 → F_M_look_b0 N n (mj_u M 48 3 (nI p)) = some (mk_mc (mk_ch τ z p), mj_u M 48 3 (nI (mk_sq τ z p))) := by
    intro d
    induction d with
    | zero =>
      intro p n hd hn hp
      obtain ⟨n, rfl⟩ : ∃ k, n = k + 1 := ⟨n - 1, by omega⟩
      rw [F_M_look_b0, mk_Mhere h (by omega)]
      simp only [mk_bs]
      rw [mk_Mhere h (by omega)]
      simp only [mk_bs]
      have e0 : mk_c0 τ z p = 0 := (mk_c0_0 h.1 p).mpr (by omega)
      unfold mk_ch
      rw [mk_sq_no (by omega), e0, if_neg (show ¬ mk_mc 0 = (32 : Int32) by decide +kernel)]
    | succ d ih =>
      intro p n hd hn hp
      obtain ⟨n, rfl⟩ : ∃ k, n = k + 1 := ⟨n - 1, by omega⟩
      have hc := mk_c0_lt h.1 p
      rw [F_M_look_b0, mk_Mhere h (by omega)]
      simp only [mk_bs]
      rw [mk_Mhere h (by omega)]
      simp only [mk_bs, mj_lt]
      rw [nl_32]
      simp (disch := omega) only [mk_mc_eq]
      have e0 : mk_c0 τ z p = τ p := by unfold mk_c0; rw [if_pos (by omega)]
      rw [e0]
      by_cases c : τ p = 32
      · rw [if_pos c, mj_u_eq, mj_up_eq, nI_1, mj_uu, ih (p + 1) n (by omega) (by omega) (by omega)]
        unfold mk_ch
        rw [mk_sq_st ⟨by omega, c⟩]
      · rw [if_neg c]
        unfold mk_ch
        rw [mk_sq_no (fun k => c k.2), e0]
  unfold F_M_look
  exact key (z - p) p N rfl (by omega) hp
theorem mk_Mbad (hw : M 48 4 = -nI 1) : F_M_bad M = some (mj_u M 48 4 (M 48 3)) := by
  unfold F_M_bad
  rw [hw, if_pos (show -nI 1 = (-1 : Int32) from rfl)]
  rfl
theorem mk_Mbad0 {w : Nat} (hw : M 48 4 = nI w) (hw3 : w < 2 ^ 31) : F_M_bad M = some M := by
  unfold F_M_bad
  rw [hw, if_neg (mk_nm1 hw3)]
  show some (mj_u M 48 4 (nI w)) = _
  rw [mj_us_ hw]
/-- is a sign a digit -/
def mk_dg2 (c : Nat) : Bool := decide (48 ≤ c ∧ c ≤ 57)
theorem mk_Mdigit {c : Nat} (hc : c < 256) : F_M_isDigit (mk_mc c) M = some (nI (mk_bi (mk_dg2 c)), M) := by
  unfold F_M_isDigit mk_dg2
  unfold mk_mc
  by_cases e : c = 0
  · rw [if_pos e, if_pos (by decide +kernel), decide_eq_false (by omega)]
    rfl
  · rw [if_neg e, nl_48, nl_57]
    simp (disch := omega) only [nw_lt]
    by_cases a : c < 48
    · rw [if_pos a, decide_eq_false (by omega)]; rfl
    · rw [if_neg a]
      by_cases b : 57 < c
      · rw [if_pos b, decide_eq_false (by omega)]; rfl
      · rw [if_neg b, decide_eq_true (by omega)]; rfl
theorem mk_Xdigit (h : mk_xt1 τ z M) {p : Nat} (hp : p ≤ z) : F_Tape_atDigit (mj_u M 2 2 (nI p)) = some (nI (mk_bi (mk_dg2 (mk_c0 τ z p))), mj_u M 2 2 (nI p)) := by
  have hz := h.1.1
  unfold F_Tape_atDigit mk_dg2
  rw [mj_u_eq, mj_up_eq, mj_up_ne _ _ _ (by omega), h.2.1]
  unfold mk_c0
  simp (disch := omega) only [nw_le]
  by_cases c : p < z
  · have hb := h.1.2 p c
    rw [if_neg (by omega), if_pos c]
    simp (disch := omega) only [nw_ck, nI_clamp, nw_u9]
    rw [h.2.2 p c, nl_48, nl_57]
    simp (disch := omega) only [nw_lt]
    by_cases a : τ p < 48
    · rw [if_pos a, decide_eq_false (by omega)]; rfl
    · rw [if_neg a]
      by_cases b : 57 < τ p
      · rw [if_pos b, decide_eq_false (by omega)]; rfl
      · rw [if_neg b, decide_eq_true (by omega)]; rfl
  · rw [if_pos (by omega), if_neg c, decide_eq_false (by omega)]
    rfl
end Tape
