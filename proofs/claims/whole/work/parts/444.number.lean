/-! ===== the pure side: both coast readers: a number ===== -/
def mk_qx (τ : Nat → Nat) (z p : Nat) (M : mj_M) : Prop := mk_xt1 τ z M ∧ p ≤ z ∧ M 2 2 = nI p ∧ M 2 3 = -nI 1
def mk_qm (τ : Nat → Nat) (z p : Nat) (M : mj_M) : Prop := mk_mt1 τ z M ∧ p ≤ z ∧ M 48 3 = nI p ∧ M 48 4 = -nI 1
section Numb
variable {N : Nat} {τ : Nat → Nat} {z p : Nat} {M : mj_M} {lo hi v j n : Nat}
theorem mk_qx.at (h : mk_qx τ z p M) {p' : Nat} (hz : p' ≤ z) : mk_qx τ z p' (mj_u M 2 2 (nI p')) :=
  ⟨h.1.u (by omega), hz, by rw [mj_u_eq, mj_up_eq], by rw [mj_u_eq, mj_up_ne _ _ _ (by omega)]; exact h.2.2.2⟩
theorem mk_qm.at (h : mk_qm τ z p M) {p' : Nat} (hz : p' ≤ z) : mk_qm τ z p' (mj_u M 48 3 (nI p')) :=
  ⟨h.1.u (by omega), hz, by rw [mj_u_eq, mj_up_eq], by rw [mj_u_eq, mj_up_ne _ _ _ (by omega)]; exact h.2.2.2⟩
theorem mk_qx.u (h : mk_qx τ z p M) {c k : Nat} {x : Int32} (hc : c ≠ 2 ∧ c ≠ 3) : mk_qx τ z p (mj_u M c k x) :=
  ⟨h.1.u (by omega), h.2.1, by rw [nw_u9 _ (by omega)]; exact h.2.2.1, by rw [nw_u9 _ (by omega)]; exact h.2.2.2⟩
theorem mk_qm.u (h : mk_qm τ z p M) {c k : Nat} {x : Int32} (hc : c ≠ 48 ∧ c ≠ 49) : mk_qm τ z p (mj_u M c k x) :=
  ⟨h.1.u (by omega), h.2.1, by rw [nw_u9 _ (by omega)]; exact h.2.2.1, by rw [nw_u9 _ (by omega)]; exact h.2.2.2⟩
theorem mk_qx.pk (h : mk_qx τ z p M) (hN : 1000 ≤ N) : F_Tape_peek N M = some (nI (mk_ch τ z p), mj_u M 2 2 (nI (mk_sq τ z p))) := by
  have e := mk_Xpeek h.1 hN h.2.1 h.2.2.2
  rw [mj_us_ h.2.2.1] at e
  exact e
theorem mk_qm.pk (h : mk_qm τ z p M) (hN : 1000 ≤ N) : F_M_look N M = some (mk_mc (mk_ch τ z p), mj_u M 48 3 (nI (mk_sq τ z p))) := by
  have hz := h.1.1.1
  have hp := h.2.1
  have e := mk_Mlook h.1 hN (show p < 90000 by omega)
  rw [mj_us_ h.2.2.1] at e
  exact e
theorem mk_qx.dg (h : mk_qx τ z p M) : F_Tape_atDigit M = some (nI (mk_bi (mk_dg2 (mk_c0 τ z p))), M) := by
  have e := mk_Xdigit h.1 h.2.1
  rw [mj_us_ h.2.2.1] at e
  exact e
theorem mk_qm.hr (h : mk_qm τ z p M) : F_M_here M = some (mk_mc (mk_c0 τ z p), M) := by
  have hz := h.1.1.1
  have hp := h.2.1
  have e := mk_Mhere h.1 (show p < 100000 by omega)
  rw [mj_us_ h.2.2.1] at e
  exact e
theorem mk_qm.ok (h : mk_qm τ z p M) : M 48 4 = (-1 : Int32) := h.2.2.2
theorem mk_dgn (hz : mk_tp τ z) (e : mk_dg2 (mk_c0 τ z p) = true) : p < z ∧ mk_c0 τ z p = τ p ∧ 48 ≤ mk_c0 τ z p ∧ mk_c0 τ z p ≤ 57 := by
  have hd := mk_dg2_t.mp e
  have hpz : p < z := by
    have := mk_c0_0 hz p
    omega
  exact ⟨hpz, by unfold mk_c0; rw [if_pos hpz], hd.1, hd.2⟩
theorem mk_Xd (h : mk_qx τ z p M) (hj : j < 2) (hv : v ≤ 9) (e : mk_dg2 (mk_c0 τ z p) = true) : F_Tape_number_b10 N (n + 1) (2 : Int32) (nI lo) (nI hi) (nI v) (nI j) M = F_Tape_number_b10 N n (2 : Int32) (nI lo) (nI hi) (nI (v * 10 + (mk_c0 τ z p - 48))) (nI (j + 1)) (mj_u M 2 2 (nI (p + 1))) := by
  obtain ⟨hpz, hcp, d1, d2⟩ := mk_dgn h.1.1 e
  have hz2 := h.1.1.1
  rw [F_Tape_number_b10, nl_2, if_neg (nI_ge (by omega) (by omega)), h.dg, mk_bs, if_neg (by rw [mk_bi0, e]; decide)]
  simp only [mj_lt]
  rw [h.2.2.1, nw_ck (by omega) (by omega), nI_clamp (by omega), h.1.2.2 p hpz, nI_1, nI_1, nl_10, pk_mul, nI_add, nl_48, pk_sub (by omega), hcp]
  rw [show v * 10 + τ p - 48 = v * 10 + (τ p - 48) by omega]
theorem mk_Xe (h : mk_qx τ z p M) (hj : j ≤ 2) (e : j = 2 ∨ mk_dg2 (mk_c0 τ z p) = false) : F_Tape_number_b10 N (n + 1) (2 : Int32) (nI lo) (nI hi) (nI v) (nI j) M = F_Tape_number_b59 N (nI lo) (nI hi) (nI v) (nI j) M := by
  rw [F_Tape_number_b10, nl_2]
  by_cases c : j = 2
  · rw [c, if_pos (Int32.le_refl _)]
  · have e2 : mk_dg2 (mk_c0 τ z p) = false := by
      rcases e with e | e
      · exact absurd e c
      · exact e
    rw [if_neg (nI_ge (by omega) (by omega)), h.dg, mk_bs, if_pos (by rw [mk_bi0, e2])]
theorem mk_X59 (h : mk_qx τ z p M) (hj : 0 < j ∧ j ≤ 2) (hp : 0 < p) (hv : v ≤ 99) (hlo : lo ≤ 99) (hhi : hi ≤ 99) : F_Tape_number_b59 N (nI lo) (nI hi) (nI v) (nI j) M = if mk_dg2 (mk_c0 τ z p) = true then some (nI v, mj_u M 2 3 (nI p)) else if lo ≤ v ∧ v ≤ hi then some (nI v, M) else some (nI v, mj_u M 2 3 (nI (p - 1))) := by
  have hz2 := h.1.1.1
  rw [F_Tape_number_b59, if_neg (nI_ne0 (by omega) (by omega)), h.dg, mk_bs]
  by_cases e : mk_dg2 (mk_c0 τ z p) = true
  · have b71 : F_Tape_number_b71 N (nI v) M = some (nI v, mj_u M 2 3 (nI p)) := by
      rw [F_Tape_number_b71, h.2.2.1, mk_Xfail h.2.2.2, mk_bs]
    rw [if_neg (by rw [mk_bi0, e]; decide), if_pos e, b71]
  · have e : mk_dg2 (mk_c0 τ z p) = false := by cases h : mk_dg2 (mk_c0 τ z p) with | true => exact absurd h e | false => rfl
    have b94 : F_Tape_number_b94 N (nI v) M = some (nI v, mj_u M 2 3 (nI (p - 1))) := by
      rw [F_Tape_number_b94, h.2.2.1, nl_1, pk_sub (by omega), mk_Xfail h.2.2.2, mk_bs]
    rw [if_pos (by rw [mk_bi0, e]), if_neg (show ¬ mk_dg2 (mk_c0 τ z p) = true by rw [e]; decide), b94]
    simp (disch := omega) only [nw_lt, nw_le]
    by_cases c1 : v < lo
    · rw [if_pos c1, if_neg (by omega)]
    · rw [if_neg c1]
      by_cases c2 : v ≤ hi
      · rw [if_pos c2, if_pos (by omega)]
      · rw [if_neg c2, if_neg (by omega)]
theorem mk_M67 (h : mk_qm τ z p M) (hp : 0 < p) (hv : v ≤ 99) (hlo : lo ≤ 99) (hhi : hi ≤ 99) : F_M_number_b67 N (nI lo) (nI hi) (nI v) M = if mk_dg2 (mk_c0 τ z p) = true then some (nI v, mj_u M 48 4 (nI p)) else if lo ≤ v ∧ v ≤ hi then some (nI v, M) else some (nI v, mj_u (mj_u M 48 3 (nI (p - 1))) 48 4 (nI (p - 1))) := by
  have hc := mk_c0_lt h.1.1 p
  have hz2 := h.1.1.1
  rw [F_M_number_b67, h.hr, mk_bs, mk_Mdigit hc, mk_bs]
  by_cases e : mk_dg2 (mk_c0 τ z p) = true
  · rw [if_neg (by rw [mk_bi0, e]; decide), if_pos e, mk_Mbad h.2.2.2, mk_bs, h.2.2.1]
  · have e : mk_dg2 (mk_c0 τ z p) = false := by cases h : mk_dg2 (mk_c0 τ z p) with | true => exact absurd h e | false => rfl
    rw [if_pos (by rw [mk_bi0, e]), if_neg (show ¬ mk_dg2 (mk_c0 τ z p) = true by rw [e]; decide), mk_Min, mk_bs]
    simp (disch := omega) only [nw_lt]
    by_cases c : v < lo ∨ hi < v
    · rw [if_pos c, if_pos rfl, if_neg (by omega)]
      simp only [mj_lt]
      rw [h.2.2.1, nl_1, pk_sub (by omega), mk_Mbad (by rw [mj_u_eq, mj_up_ne _ _ _ (by omega)]; exact h.2.2.2), mk_bs, mj_u_eq, mj_up_eq]
    · rw [if_neg c, if_neg (show ¬ (1 : Int32) = 0 by decide +kernel), if_pos (by omega)]
theorem mk_num2 (hN : 1000 ≤ N) (hz : mk_tp τ z) (hp : p ≤ z) (hlo : lo ≤ 99) (hhi : hi ≤ 99) :
    (∃ v p', p < p' ∧ p' ≤ z ∧ lo ≤ v ∧ v ≤ hi ∧ (∀ M, mk_qx τ z p M → F_Tape_number N (2 : Int32) (nI lo) (nI hi) M = some (nI v, mj_u M 2 2 (nI p'))) ∧ (∀ M, mk_qm τ z p M → F_M_number N (nI lo) (nI hi) M = some (nI v, mj_u M 48 3 (nI p'))))
    ∨ (∃ w, ∃ p1 p2 y1 y2 : Int32, w ≤ z ∧ (∀ M, mk_qx τ z p M → F_Tape_number N (2 : Int32) (nI lo) (nI hi) M = some (y1, mj_u (mj_u M 2 2 p1) 2 3 (nI w))) ∧ (∀ M, mk_qm τ z p M → F_M_number N (nI lo) (nI hi) M = some (y2, mj_u (mj_u M 48 3 p2) 48 4 (nI w)))) := by
  have hz2 := hz.1
  have hs := mk_sq_in τ z p
  have hc := mk_c0_lt hz (mk_sq τ z p)
  have hch : mk_ch τ z p = mk_c0 τ z (mk_sq τ z p) := rfl
  have sX : ∀ M, mk_qx τ z p M → F_Tape_number N (2 : Int32) (nI lo) (nI hi) M = F_Tape_number_b10 N N (2 : Int32) (nI lo) (nI hi) (nI 0) (nI 0) (mj_u M 2 2 (nI (mk_sq τ z p))) := by
    intro M h
    have e := mk_Xskip h.1 hN h.2.1
    rw [mj_us_ h.2.2.1] at e
    rw [F_Tape_number, e, mk_bs]
    rfl
  have sM : ∀ M, mk_qm τ z p M → F_M_number N (nI lo) (nI hi) M = (F_M_isDigit (mk_mc (mk_c0 τ z (mk_sq τ z p))) (mj_u M 48 3 (nI (mk_sq τ z p)))).bind (fun q2 =>
     if q2.1 = (0) then
     ((F_M_bad q2.2).bind (fun q13 =>
     some (nI lo, q13)))
     else
     ((F_M_here q2.2).bind (fun q4 =>
     mj_lt (q4.1 - (48 : Int32)) (fun v5 =>
     mj_lt (mj_u q4.2 48 3 ((q4.2 48 3) + (1 : Int32))) (fun M6 =>
     (F_M_here M6).bind (fun q7 =>
     (F_M_isDigit q7.1 q7.2).bind (fun q8 =>
     if q8.1 = (0) then
     (F_M_number_b67 N (nI lo) (nI hi) v5 q8.2)
     else
     ((F_M_here q8.2).bind (fun q10 =>
     mj_lt ((((10 : Int32) * v5) + q10.1) - (48 : Int32)) (fun v11 =>
     mj_lt (mj_u q10.2 48 3 ((q10.2 48 3) + (1 : Int32))) (fun M12 =>
     F_M_number_b67 N (nI lo) (nI hi) v11 M12))))))))))) := by
    intro M h
    rw [F_M_number, h.pk hN, mk_bs, hch]
  obtain ⟨n, hn⟩ : ∃ k, N = k + 3 := ⟨N - 3, by omega⟩
  have hN3 : ∀ x M, F_Tape_number_b10 N N (2 : Int32) (nI lo) (nI hi) (nI x) (nI 0) M = F_Tape_number_b10 N (n + 2 + 1) (2 : Int32) (nI lo) (nI hi) (nI x) (nI 0) M := fun x M => by
    have e : ∀ m, m = n + 2 + 1 → F_Tape_number_b10 N m (2 : Int32) (nI lo) (nI hi) (nI x) (nI 0) M = F_Tape_number_b10 N (n + 2 + 1) (2 : Int32) (nI lo) (nI hi) (nI x) (nI 0) M := fun m h => by rw [h]
    exact e N (by omega)
  generalize hp0 : mk_sq τ z p = p0 at *
  by_cases e0 : mk_dg2 (mk_c0 τ z p0) = true
  rotate_left
  · have e0 : mk_dg2 (mk_c0 τ z p0) = false := by cases h : mk_dg2 (mk_c0 τ z p0) with | true => exact absurd h e0 | false => rfl
    refine Or.inr ⟨p0, nI p0, nI p0, nI 0, nI lo, by omega, fun M h => ?_, fun M h => ?_⟩
    · have h1 := h.at (p' := p0) (by omega)
      rw [sX M h, hN3, mk_Xe h1 (by omega) (Or.inr e0), F_Tape_number_b59, if_pos (show nI 0 = (0 : Int32) from rfl), F_Tape_number_b71, h1.2.2.1, mk_Xfail h1.2.2.2, mk_bs]
    · have h1 := h.at (p' := p0) (by omega)
      rw [sM M h, mk_Mdigit hc, mk_bs, if_pos (by rw [mk_bi0, e0]), mk_Mbad h1.2.2.2, mk_bs, h1.2.2.1]
  obtain ⟨hpz, hcp, d1, d2⟩ := mk_dgn hz e0
  have hc1 := mk_c0_lt hz (p0 + 1)
  have mc0 : mk_mc (mk_c0 τ z p0) = nI (mk_c0 τ z p0) := mk_mcn (by omega)
  by_cases e1 : mk_dg2 (mk_c0 τ z (p0 + 1)) = true
  rotate_left
  · have e1 : mk_dg2 (mk_c0 τ z (p0 + 1)) = false := by cases h : mk_dg2 (mk_c0 τ z (p0 + 1)) with | true => exact absurd h e1 | false => rfl
    have tX : ∀ M, mk_qx τ z p M → F_Tape_number N (2 : Int32) (nI lo) (nI hi) M = if lo ≤ mk_c0 τ z p0 - 48 ∧ mk_c0 τ z p0 - 48 ≤ hi then some (nI (mk_c0 τ z p0 - 48), mj_u M 2 2 (nI (p0 + 1))) else some (nI (mk_c0 τ z p0 - 48), mj_u (mj_u M 2 2 (nI (p0 + 1))) 2 3 (nI (p0 + 1 - 1))) := by
      intro M h
      have h1 := h.at (p' := p0) (by omega)
      have h2 := h.at (p' := p0 + 1) (by omega)
      rw [sX M h, hN3, mk_Xd h1 (by omega) (by omega) e0, mj_uu, Nat.zero_mul, Nat.zero_add, mk_Xe h2 (by omega) (Or.inr e1), mk_X59 h2 (by omega) (by omega) (by omega) hlo hhi, if_neg (by rw [e1]; decide)]
    have tM : ∀ M, mk_qm τ z p M → F_M_number N (nI lo) (nI hi) M = if lo ≤ mk_c0 τ z p0 - 48 ∧ mk_c0 τ z p0 - 48 ≤ hi then some (nI (mk_c0 τ z p0 - 48), mj_u M 48 3 (nI (p0 + 1))) else some (nI (mk_c0 τ z p0 - 48), mj_u (mj_u M 48 3 (nI (p0 + 1 - 1))) 48 4 (nI (p0 + 1 - 1))) := by
      intro M h
      have h1 := h.at (p' := p0) (by omega)
      have h2 := h.at (p' := p0 + 1) (by omega)
      rw [sM M h, mk_Mdigit hc, mk_bs, if_neg (by rw [mk_bi0, e0]; decide), h1.hr, mk_bs]
      simp only [mj_lt]
      rw [h1.2.2.1, nI_1, mj_uu, h2.hr, mk_bs, mk_Mdigit hc1, mk_bs, if_pos (by rw [mk_bi0, e1]), mc0, nl_48, pk_sub (by omega), mk_M67 h2 (by omega) (by omega) hlo hhi, if_neg (by rw [e1]; decide), mj_uu]
    by_cases c : lo ≤ mk_c0 τ z p0 - 48 ∧ mk_c0 τ z p0 - 48 ≤ hi
    · exact Or.inl ⟨_, p0 + 1, by omega, by omega, c.1, c.2, fun M h => by rw [tX M h, if_pos c], fun M h => by rw [tM M h, if_pos c]⟩
    · exact Or.inr ⟨p0 + 1 - 1, _, _, _, _, by omega, fun M h => by rw [tX M h, if_neg c], fun M h => by rw [tM M h, if_neg c]⟩
  obtain ⟨hpz1, hcp1, f1, f2⟩ := mk_dgn hz e1
  have mc1 : mk_mc (mk_c0 τ z (p0 + 1)) = nI (mk_c0 τ z (p0 + 1)) := mk_mcn (by omega)
  have tX : ∀ M, mk_qx τ z p M → F_Tape_number N (2 : Int32) (nI lo) (nI hi) M = F_Tape_number_b59 N (nI lo) (nI hi) (nI ((mk_c0 τ z p0 - 48) * 10 + (mk_c0 τ z (p0 + 1) - 48))) (nI 2) (mj_u M 2 2 (nI (p0 + 2))) := by
    intro M h
    have h1 := h.at (p' := p0) (by omega)
    have h2 := h.at (p' := p0 + 1) (by omega)
    have h3 := h.at (p' := p0 + 2) (by omega)
    rw [sX M h, hN3, mk_Xd h1 (by omega) (by omega) e0, mj_uu, Nat.zero_mul, Nat.zero_add, mk_Xd h2 (by omega) (by omega) e1, mj_uu, mk_Xe h3 (by omega) (Or.inl rfl)]
  have tM : ∀ M, mk_qm τ z p M → F_M_number N (nI lo) (nI hi) M = F_M_number_b67 N (nI lo) (nI hi) (nI ((mk_c0 τ z p0 - 48) * 10 + (mk_c0 τ z (p0 + 1) - 48))) (mj_u M 48 3 (nI (p0 + 2))) := by
    intro M h
    have h1 := h.at (p' := p0) (by omega)
    have h2 := h.at (p' := p0 + 1) (by omega)
    rw [sM M h, mk_Mdigit hc, mk_bs, if_neg (by rw [mk_bi0, e0]; decide), h1.hr, mk_bs]
    simp only [mj_lt]
    rw [h1.2.2.1, nI_1, mj_uu, h2.hr, mk_bs, mk_Mdigit hc1, mk_bs, if_neg (by rw [mk_bi0, e1]; decide), h2.hr, mk_bs, mc0, mc1, nl_48, pk_sub (by omega), nl_10, pk_mul, nI_add, pk_sub (by omega)]
    dsimp only
    rw [h2.2.2.1, nI_1, mj_uu, show 10 * (mk_c0 τ z p0 - 48) + mk_c0 τ z (p0 + 1) - 48 = (mk_c0 τ z p0 - 48) * 10 + (mk_c0 τ z (p0 + 1) - 48) by omega]
  by_cases e2 : mk_dg2 (mk_c0 τ z (p0 + 2)) = true
  · refine Or.inr ⟨p0 + 2, nI (p0 + 2), nI (p0 + 2), nI ((mk_c0 τ z p0 - 48) * 10 + (mk_c0 τ z (p0 + 1) - 48)), nI ((mk_c0 τ z p0 - 48) * 10 + (mk_c0 τ z (p0 + 1) - 48)), by omega, fun M h => ?_, fun M h => ?_⟩
    · rw [tX M h, mk_X59 (h.at (p' := p0 + 2) (by omega)) (by omega) (by omega) (by omega) hlo hhi, if_pos e2]
    · rw [tM M h, mk_M67 (h.at (p' := p0 + 2) (by omega)) (by omega) (by omega) hlo hhi, if_pos e2]
  by_cases c : lo ≤ (mk_c0 τ z p0 - 48) * 10 + (mk_c0 τ z (p0 + 1) - 48) ∧ (mk_c0 τ z p0 - 48) * 10 + (mk_c0 τ z (p0 + 1) - 48) ≤ hi
  · refine Or.inl ⟨(mk_c0 τ z p0 - 48) * 10 + (mk_c0 τ z (p0 + 1) - 48), p0 + 2, by omega, by omega, c.1, c.2, fun M h => ?_, fun M h => ?_⟩
    · rw [tX M h, mk_X59 (h.at (p' := p0 + 2) (by omega)) (by omega) (by omega) (by omega) hlo hhi, if_neg e2, if_pos c]
    · rw [tM M h, mk_M67 (h.at (p' := p0 + 2) (by omega)) (by omega) (by omega) hlo hhi, if_neg e2, if_pos c]
  · refine Or.inr ⟨p0 + 2 - 1, nI (p0 + 2), nI (p0 + 2 - 1), nI ((mk_c0 τ z p0 - 48) * 10 + (mk_c0 τ z (p0 + 1) - 48)), nI ((mk_c0 τ z p0 - 48) * 10 + (mk_c0 τ z (p0 + 1) - 48)), by omega, fun M h => ?_, fun M h => ?_⟩
    · rw [tX M h, mk_X59 (h.at (p' := p0 + 2) (by omega)) (by omega) (by omega) (by omega) hlo hhi, if_neg e2, if_neg c]
    · rw [tM M h, mk_M67 (h.at (p' := p0 + 2) (by omega)) (by omega) (by omega) hlo hhi, if_neg e2, if_neg c, mj_uu]
end Numb
