/-! ===== the pure side: numbers, sums, conditions of a law, both readers ===== -/
section Sums
variable {N : Nat} {τ : Nat → Nat} {z r d : Nat}
theorem mk_lx.dg {B M : mj_M} {p : Nat} {l : List Nat} (h : mk_lx τ z B p l M) : F_Tape_atDigit M = some (nI (mk_bi (mk_dg2 (mk_c0 τ z p))), M) := by
  have e := mk_Xdigit h.1 h.2.1
  rw [mj_us_ h.2.2.1] at e
  exact e
theorem mk_lm.hr {C M : mj_M} {p : Nat} {L : List mk_T} (h : mk_lm τ z C r d p L M) : F_M_here M = some (mk_mc (mk_c0 τ z p), M) := by
  have hz := h.z240
  have hp := h.2.1
  have e := mk_Mhere h.1 (show p < 100000 by omega)
  rw [mj_us_ h.2.2.2.2.1] at e
  exact e
theorem mk_dg2_t {c : Nat} : mk_dg2 c = true ↔ 48 ≤ c ∧ c ≤ 57 := by unfold mk_dg2; exact decide_eq_true_iff
theorem mk_dg2_f {c : Nat} : mk_dg2 c = false ↔ ¬ (48 ≤ c ∧ c ≤ 57) := by unfold mk_dg2; exact decide_eq_false_iff_not
theorem mk_num4 (hz : mk_tp τ z) : ∀ k j v p n m, j + k = 4 → v < 10 ^ j → (j = 0 → mk_dg2 (mk_c0 τ z p) = true) → p ≤ z → k < n → k < m →
    (∃ v' p', v' < 10000 ∧ p ≤ p' ∧ p' ≤ z ∧ (j = 0 → p < p') ∧ (∀ B M l, mk_lx τ z B p l M → ∃ M', F_Tape_number_b10 N n (4 : Int32) (0 : Int32) (9999 : Int32) (nI v) (nI j) M = some (nI v', M') ∧ mk_lx τ z B p' l M') ∧ (∀ C M L, mk_lm τ z C r d p L M → ∃ M', F_M_plainNumber_b4 N m (nI v) (nI j) M = some (nI v', M') ∧ mk_lm τ z C r d p' L M'))
    ∨ (p + k ≤ z ∧ (∀ B M l, mk_lx τ z B p l M → ∃ M' y, F_Tape_number_b10 N n (4 : Int32) (0 : Int32) (9999 : Int32) (nI v) (nI j) M = some (y, M') ∧ mk_lxf B (p + k) M') ∧ (∀ C M L, mk_lm τ z C r d p L M → ∃ M' y, F_M_plainNumber_b4 N m (nI v) (nI j) M = some (y, M') ∧ mk_lmf C r (p + k) L.length M')) := by
  have hz2 := hz.1
  intro k
  induction k with
  | zero =>
    intro j v p n m hj hv h0 hp hn hm
    obtain ⟨n, rfl⟩ : ∃ k, n = k + 1 := ⟨n - 1, by omega⟩
    obtain ⟨m, rfl⟩ : ∃ k, m = k + 1 := ⟨m - 1, by omega⟩
    have hc := mk_c0_lt hz p
    obtain rfl : j = 4 := by omega
    by_cases e : mk_dg2 (mk_c0 τ z p) = true
    · refine Or.inr ⟨by omega, fun B M l h => ?_, fun C M L h => ?_⟩
      · rw [F_Tape_number_b10, nl_4, if_pos (Int32.le_refl _), F_Tape_number_b59, if_neg (show ¬ nI 4 = (0 : Int32) by decide +kernel), h.dg, mk_bs, if_neg (by rw [mk_bi0, e]; decide), F_Tape_number_b71]
        obtain ⟨M1, x1, x2⟩ := h.fl (v := M 2 2) (w := p) h.2.2.1 (by omega)
        rw [x1, mk_bs]
        exact ⟨_, _, rfl, x2⟩
      · rw [F_M_plainNumber_b4, nl_4, if_pos (Int32.le_refl _), F_M_plainNumber_b48, h.hr]
        simp only [mk_bs]
        rw [mk_Mdigit hc, mk_bs, if_neg (by rw [mk_bi0, e]; decide)]
        obtain ⟨M1, x1, x2⟩ := h.bd
        rw [x1, mk_bs]
        exact ⟨_, _, rfl, x2⟩
    · have e : mk_dg2 (mk_c0 τ z p) = false := by cases h : mk_dg2 (mk_c0 τ z p) with | true => exact absurd h e | false => rfl
      refine Or.inl ⟨v, p, by omega, Nat.le_refl _, hp, fun h => by omega, fun B M l h => ⟨M, ?_, h⟩, fun C M L h => ⟨M, ?_, h⟩⟩
      · rw [F_Tape_number_b10, nl_4, if_pos (Int32.le_refl _), F_Tape_number_b59, if_neg (show ¬ nI 4 = (0 : Int32) by decide +kernel), h.dg, mk_bs, if_pos (by rw [mk_bi0, e]), nl_0, nl_9999, if_neg (show ¬ nI v < nI 0 by rw [nw_lt (by omega) (by omega)]; omega), if_pos (nI_le (by omega) (by omega))]
      · rw [F_M_plainNumber_b4, nl_4, if_pos (Int32.le_refl _), F_M_plainNumber_b48, h.hr]
        simp only [mk_bs]
        rw [mk_Mdigit hc, mk_bs, if_pos (by rw [mk_bi0, e])]
  | succ k ih =>
    intro j v p n m hj hv h0 hp hn hm
    obtain ⟨n, rfl⟩ : ∃ k, n = k + 1 := ⟨n - 1, by omega⟩
    obtain ⟨m, rfl⟩ : ∃ k, m = k + 1 := ⟨m - 1, by omega⟩
    have hc := mk_c0_lt hz p
    have hv4 : 10 ^ j ≤ 10 ^ 3 := Nat.pow_le_pow_right (by omega) (by omega)
    by_cases e : mk_dg2 (mk_c0 τ z p) = true
    · have hd := mk_dg2_t.mp e
      have hpz : p < z := by
        have := mk_c0_0 hz p
        omega
      have hcp : mk_c0 τ z p = τ p := by unfold mk_c0; rw [if_pos hpz]
      have hx : ∀ B M l, mk_lx τ z B p l M → F_Tape_number_b10 N (n + 1) (4 : Int32) (0 : Int32) (9999 : Int32) (nI v) (nI j) M = F_Tape_number_b10 N n (4 : Int32) (0 : Int32) (9999 : Int32) (nI (v * 10 + (mk_c0 τ z p - 48))) (nI (j + 1)) (mj_u M 2 2 (M 2 2 + (1 : Int32))) := by
        intro B M l h
        rw [F_Tape_number_b10, nl_4, if_neg (nI_ge (by omega) (by omega)), h.dg, mk_bs, if_neg (by rw [mk_bi0, e]; decide)]
        simp only [mj_lt]
        rw [h.2.2.1, nw_ck (by omega) (by omega), nI_clamp (by omega), h.1.2.2 p hpz, nI_1, nI_1, nl_10, pk_mul, nI_add, nl_48, pk_sub (by omega), hcp]
        rw [show v * 10 + τ p - 48 = v * 10 + (τ p - 48) by omega]
      have hm' : ∀ C M L, mk_lm τ z C r d p L M → F_M_plainNumber_b4 N (m + 1) (nI v) (nI j) M = F_M_plainNumber_b4 N m (nI (v * 10 + (mk_c0 τ z p - 48))) (nI (j + 1)) (mj_u M 48 3 (M 48 3 + (1 : Int32))) := by
        intro C M L h
        rw [F_M_plainNumber_b4, nl_4, if_neg (nI_ge (by omega) (by omega)), h.hr]
        simp only [mk_bs]
        rw [mk_Mdigit hc, mk_bs, if_neg (by rw [mk_bi0, e]; decide), h.hr]
        simp only [mk_bs, mj_lt]
        have e2 : mk_mc (mk_c0 τ z p) = nI (mk_c0 τ z p) := by unfold mk_mc; rw [if_neg (by omega)]
        rw [e2, nI_1, nl_10, pk_mul, nI_add, nl_48, pk_sub (by omega), show 10 * v + mk_c0 τ z p - 48 = v * 10 + (mk_c0 τ z p - 48) by omega]
      rcases ih (j + 1) (v * 10 + (mk_c0 τ z p - 48)) (p + 1) n m (by omega) (by rw [Nat.pow_succ]; omega) (fun h => by omega) (by omega) (by omega) (by omega) with ⟨v', p', a1, a2, a3, a4, a5, a6⟩ | ⟨a1, a2, a3⟩
      · refine Or.inl ⟨v', p', a1, by omega, a3, fun h => by omega, fun B M l h => ?_, fun C M L h => ?_⟩
        · rw [hx B M l h]; exact a5 B _ l (h.nx hpz)
        · rw [hm' C M L h]; exact a6 C _ L (h.nx hpz)
      · rw [show p + 1 + k = p + (k + 1) by omega] at *
        refine Or.inr ⟨a1, fun B M l h => ?_, fun C M L h => ?_⟩
        · rw [hx B M l h]; exact a2 B _ l (h.nx hpz)
        · rw [hm' C M L h]; exact a3 C _ L (h.nx hpz)
    · have e : mk_dg2 (mk_c0 τ z p) = false := by cases h : mk_dg2 (mk_c0 τ z p) with | true => exact absurd h e | false => rfl
      have hj0 : j ≠ 0 := fun h => by rw [h0 h] at e; exact absurd e (by decide)
      refine Or.inl ⟨v, p, by omega, Nat.le_refl _, hp, fun h => absurd h hj0, fun B M l h => ⟨M, ?_, h⟩, fun C M L h => ⟨M, ?_, h⟩⟩
      · rw [F_Tape_number_b10, nl_4, if_neg (nI_ge (by omega) (by omega)), h.dg, mk_bs, if_pos (by rw [mk_bi0, e]), F_Tape_number_b59, if_neg (show ¬ nI j = (0 : Int32) by rw [nl_0, nw_eq (by omega) (by omega)]; exact hj0), h.dg, mk_bs, if_pos (by rw [mk_bi0, e]), nl_0, nl_9999, if_neg (show ¬ nI v < nI 0 by rw [nw_lt (by omega) (by omega)]; omega), if_pos (nI_le (by omega) (by omega))]
      · rw [F_M_plainNumber_b4, nl_4, if_neg (nI_ge (by omega) (by omega)), h.hr]
        simp only [mk_bs]
        rw [mk_Mdigit hc, mk_bs, if_pos (by rw [mk_bi0, e]), F_M_plainNumber_b48, h.hr]
        simp only [mk_bs]
        rw [mk_Mdigit hc, mk_bs, if_pos (by rw [mk_bi0, e])]
/-- which letter a sign is; 6: none -/
def mk_lo (c : Nat) : Nat := if c = 108 then 0 else if c = 107 then 1 else if c = 99 then 2 else if c = 110 then 3 else if c = 119 then 4 else if c = 114 then 5 else 6
theorem mk_lo6 (c : Nat) : mk_lo c ≤ 6 := by
  unfold mk_lo
  repeat' split
  all_goals omega
theorem mk_bid {α : Type} (o : Option α) : (o.bind fun q => some q) = o := by cases o <;> rfl
def mk_ll (i : Nat) : Nat := ([108, 107, 99, 110, 119, 114] : List Nat).getD i 0
theorem mk_lstep {c i n : Nat} (hi : i < 6) (M : mj_M) : F_LawReader_readLetter_b2 N (n + 1) (nI c) (nI i) M = if nI (mk_ll i) = nI c then F_LawReader_write (108 : Int32) (nI i) (mj_u M 2 2 (M 2 2 + (1 : Int32))) else F_LawReader_readLetter_b2 N n (nI c) (nI (i + 1)) M := by
  rw [F_LawReader_readLetter_b2, nl_6, if_neg (nI_ge (by omega) (by omega)), nw_ck (show i < ([108, 107, 99, 110, 119, 114] : List Int32).length from hi) (by decide), nI_clamp (by omega), nI_1]
  have e : ([108, 107, 99, 110, 119, 114] : List Int32).getD i 0 = nI (mk_ll i) := by
    rcases (show i = 0 ∨ i = 1 ∨ i = 2 ∨ i = 3 ∨ i = 4 ∨ i = 5 by omega) with rfl | rfl | rfl | rfl | rfl | rfl <;> rfl
  rw [e]
  simp only [mj_lt, mk_bid]
theorem mk_Xlet (hN : 1000 ≤ N) {c : Nat} (hc : c < 256) (M : mj_M) : F_LawReader_readLetter N (nI c) M = if mk_lo c < 6 then F_LawReader_write (108 : Int32) (nI (mk_lo c)) (mj_u M 2 2 (M 2 2 + (1 : Int32))) else F_Tape_fail (M 2 2) M := by
  obtain ⟨n, rfl⟩ : ∃ k, N = k + 7 := ⟨N - 7, by omega⟩
  unfold F_LawReader_readLetter
  rw [nl_0, mk_lstep (by omega), mk_lstep (by omega), mk_lstep (by omega), mk_lstep (by omega), mk_lstep (by omega), mk_lstep (by omega), F_LawReader_readLetter_b2, nl_6, if_pos (Int32.le_refl _)]
  simp only [show mk_ll 0 = 108 from rfl, show mk_ll (0 + 1) = 107 from rfl, show mk_ll (0 + 1 + 1) = 99 from rfl, show mk_ll (0 + 1 + 1 + 1) = 110 from rfl, show mk_ll (0 + 1 + 1 + 1 + 1) = 119 from rfl, show mk_ll (0 + 1 + 1 + 1 + 1 + 1) = 114 from rfl]
  simp (disch := omega) only [nw_eq]
  unfold mk_lo
  by_cases h0 : c = 108
  · subst h0; rfl
  by_cases h1 : c = 107
  · subst h1; rfl
  by_cases h2 : c = 99
  · subst h2; rfl
  by_cases h3 : c = 110
  · subst h3; rfl
  by_cases h4 : c = 119
  · subst h4; rfl
  by_cases h5 : c = 114
  · subst h5; rfl
  rw [if_neg (Ne.symm h0), if_neg (Ne.symm h1), if_neg (Ne.symm h2), if_neg (Ne.symm h3), if_neg (Ne.symm h4), if_neg (Ne.symm h5), if_neg h0, if_neg h1, if_neg h2, if_neg h3, if_neg h4, if_neg h5, if_neg (by omega)]
  cases F_Tape_fail (M 2 2) M with
  | none => rfl
  | some q => rw [mk_bs]
theorem mk_Mlet {c : Nat} (hc : c < 256) (M : mj_M) : F_M_letterOf (mk_mc c) M = some (if mk_lo c < 6 then nI (mk_lo c) else -nI 1, M) := by
  unfold F_M_letterOf mk_lo
  rw [nl_108, nl_107, nl_99, nl_110, nl_119, nl_114]
  simp (disch := omega) only [mk_mc_eq]
  by_cases h0 : c = 108
  · subst h0; rfl
  by_cases h1 : c = 107
  · subst h1; rfl
  by_cases h2 : c = 99
  · subst h2; rfl
  by_cases h3 : c = 110
  · subst h3; rfl
  by_cases h4 : c = 119
  · subst h4; rfl
  by_cases h5 : c = 114
  · subst h5; rfl
  rw [if_neg h0, if_neg h1, if_neg h2, if_neg h3, if_neg h4, if_neg h5, if_neg h0, if_neg h1, if_neg h2, if_neg h3, if_neg h4, if_neg h5, if_neg (by omega)]
  rfl
end Sums
