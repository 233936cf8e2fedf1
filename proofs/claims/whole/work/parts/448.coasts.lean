/-! ===== the pure side: a coast from its first sign to its end ===== -/
section Coasts
variable {N : Nat} {τ : Nat → Nat} {z p w : Nat} {B C M M' : mj_M} {K : mk_S}
theorem mk_Kc_e (hN : 1000 ≤ N) (hz : mk_tp τ z) (hp : p ≤ z) (hK : mk_kw K) (h1 : ¬ (mk_ch τ z p = 115 ∧ K 4 3 = 0)) (h2 : ¬ (mk_ch τ z p = 104 ∧ K 48 20 < 6)) (h3 : ¬ (mk_ch τ z p = 116 ∧ K 48 21 < 6)) : mk_gq N τ z K p := by
  have hz2 := hz.1
  have hs := mk_sq_in τ z p
  have hl : mk_ch τ z p < 256 := mk_c0_lt hz _
  have hk := hK.2.2.1
  have k1 := hK.1
  have k2 := hK.2.1
  have e10 : ¬ (1 : Int32) = 0 := by decide +kernel
  refine Or.inr ⟨mk_sq τ z p, by omega, fun B M h => ?_, fun C M n h => ?_⟩
  · have hq := h.1.at (p' := mk_sq τ z p) (by omega)
    have e104 : F_CoastReader_readClause_b104 N (mj_u M 2 2 (nI (mk_sq τ z p))) = some (mj_u (mj_u M 2 2 (nI (mk_sq τ z p))) 2 3 (nI (mk_sq τ z p))) := by
      rw [F_CoastReader_readClause_b104, hq.2.2.1, mk_Xfail hq.2.2.2, mk_bs]
    have d41 : ∀ k, mj_u M 2 2 (nI (mk_sq τ z p)) 41 k = M 41 k := fun k => by rw [nw_u9 _ (by omega)]
    have e71 : F_CoastReader_readClause_b71 N (nI (mk_ch τ z p)) (mj_u M 2 2 (nI (mk_sq τ z p))) = some (mj_u (mj_u M 2 2 (nI (mk_sq τ z p))) 2 3 (nI (mk_sq τ z p))) := by
      rw [F_CoastReader_readClause_b71]
      by_cases c : mk_ch τ z p = 116
      · rw [if_pos (by rw [c]; rfl), d41, h.2.2.1.2.1, nl_6, if_pos (nI_le (by omega) (by omega)), e104]
      · rw [if_neg (by rw [nl_116, nw_eq (by omega) (by omega)]; exact c), e104]
    have e39 : F_CoastReader_readClause_b39 N (nI (mk_ch τ z p)) (mj_u M 2 2 (nI (mk_sq τ z p))) = some (mj_u (mj_u M 2 2 (nI (mk_sq τ z p))) 2 3 (nI (mk_sq τ z p))) := by
      rw [F_CoastReader_readClause_b39]
      by_cases c : mk_ch τ z p = 104
      · rw [if_pos (by rw [c]; rfl), d41, h.2.2.1.1, nl_6, if_pos (nI_le (by omega) (by omega)), e71]
      · rw [if_neg (by rw [nl_104, nw_eq (by omega) (by omega)]; exact c), e71]
    refine ⟨mj_u (mj_u M 2 2 (nI (mk_sq τ z p))) 2 3 (nI (mk_sq τ z p)), ?_, by rw [mj_u_eq, mj_up_eq], by omega, by rw [mj_u_eq, mj_up_ne _ _ _ (by omega)]; exact hq.1.2.1, (h.2.2.2.u (by omega)).u (by omega)⟩
    rw [F_CoastReader_readClause, h.1.pk hN, mk_bs]
    dsimp only
    by_cases c : mk_ch τ z p = 115
    · have e43 : ¬ mj_u M 2 2 (nI (mk_sq τ z p)) 4 3 = (0 : Int32) := by rw [nw_u9 _ (by omega), h.2.1, nl_0, nw_eq (by omega) (by omega)]; omega
      rw [if_pos (by rw [c]; rfl), if_neg e43, e39]
    · rw [if_neg (by rw [nl_115, nw_eq (by omega) (by omega)]; exact c), e39]
  · have hq := h.1.at (p' := mk_sq τ z p) (by omega)
    have e210 : ∀ x, F_M_readCoast_b210 N (F_M_readCoast_b49 N n) x (mj_u M 48 3 (nI (mk_sq τ z p))) = F_M_readCoast_b214 N (F_M_readCoast_b49 N n) x (mj_u (mj_u M 48 3 (nI (mk_sq τ z p))) 48 4 (nI (mk_sq τ z p))) := fun x => by
      rw [F_M_readCoast_b210, mk_Mbad hq.2.2.2, mk_bs, hq.2.2.1]
    have d48 : ∀ k, k ≠ 3 → mj_u M 48 3 (nI (mk_sq τ z p)) 48 k = M 48 k := fun k hk => by rw [mj_u_eq, mj_up_ne _ _ _ hk]
    have e156 : ∀ x, F_M_readCoast_b156 N (F_M_readCoast_b49 N n) x (mk_mc (mk_ch τ z p)) (mj_u M 48 3 (nI (mk_sq τ z p))) = F_M_readCoast_b214 N (F_M_readCoast_b49 N n) x (mj_u (mj_u M 48 3 (nI (mk_sq τ z p))) 48 4 (nI (mk_sq τ z p))) := fun x => by
      rw [F_M_readCoast_b156]
      by_cases c : mk_ch τ z p = 116
      · rw [if_pos (by rw [c]; decide +kernel), d48 21 (by omega), h.2.1.2.1, nl_6, if_pos (nI_le (by omega) (by omega)), e210]
      · rw [if_neg (by rw [nl_116, mk_mc_eq hl (by omega) (by omega)]; exact c), e210]
    have e102 : ∀ x, F_M_readCoast_b102 N (F_M_readCoast_b49 N n) x (mk_mc (mk_ch τ z p)) (mj_u M 48 3 (nI (mk_sq τ z p))) = F_M_readCoast_b214 N (F_M_readCoast_b49 N n) x (mj_u (mj_u M 48 3 (nI (mk_sq τ z p))) 48 4 (nI (mk_sq τ z p))) := fun x => by
      rw [F_M_readCoast_b102]
      by_cases c : mk_ch τ z p = 104
      · rw [if_pos (by rw [c]; decide +kernel), d48 20 (by omega), h.2.1.1, nl_6, if_pos (nI_le (by omega) (by omega)), e156]
      · rw [if_neg (by rw [nl_104, mk_mc_eq hl (by omega) (by omega)]; exact c), e156]
    refine ⟨mj_u (mj_u M 48 3 (nI (mk_sq τ z p))) 48 4 (nI (mk_sq τ z p)), nI (K 4 3), ?_, by rw [mj_u_eq, mj_up_eq], by omega, (h.2.2.u (by omega)).u (by omega)⟩
    rw [F_M_readCoast_b49, if_neg e10, if_pos h.1.ok, h.1.pk hN, mk_bs]
    dsimp only
    by_cases c : mk_ch τ z p = 115
    · rw [if_pos (by rw [c]; decide +kernel), if_neg (by rw [nl_0, nw_eq (by omega) (by omega)]; omega), e102]
    · rw [if_neg (by rw [nl_115, mk_mc_eq hl (by omega) (by omega)]; exact c), e102]
theorem mk_Kcl (hN : 1000 ≤ N) (hz : mk_tp τ z) (hp : p ≤ z) (hK : mk_kw K) : mk_gq N τ z K p := by
  by_cases h1 : mk_ch τ z p = 115 ∧ K 4 3 = 0
  · exact mk_Kc_s hN hz hp hK h1.1 h1.2
  by_cases h2 : mk_ch τ z p = 104 ∧ K 48 20 < 6
  · exact mk_Kc_h hN hz hp hK h2.1 h2.2
  by_cases h3 : mk_ch τ z p = 116 ∧ K 48 21 < 6
  · exact mk_Kc_t hN hz hp hK h3.1 h3.2
  exact mk_Kc_e hN hz hp hK h1 h2 h3
theorem mk_K119 (hw : M 2 3 = nI w) (h2 : w < 2 ^ 31) : F_CoastReader_read_b119 N M = some (nI w, M) := by
  rw [F_CoastReader_read_b119, mk_Xfail0 hw h2, mk_bs, hw]
theorem mk_K73t (hw : M 2 3 = nI w) (h2 : w < 2 ^ 31) : (if (M 41 0) < (2 : Int32) then (F_CoastReader_read_b119 N M) else (if (M 41 1) < (1 : Int32) then (F_CoastReader_read_b119 N M) else (if (M 41 4) < (M 41 0) then (some (M 2 3, M)) else (F_CoastReader_read_b119 N M)))) = some (nI w, M) := by
  rw [mk_K119 hw h2, hw]
  split
  · rfl
  · split
    · rfl
    · split <;> rfl
theorem mk_kxf.e73 (h : mk_kxf z B w M) : F_CoastReader_read_b73 N M = some (nI w, M) := by
  have h2 : w < 2 ^ 31 := by have := h.2.1; omega
  rw [F_CoastReader_read_b73, F_Tape_demandEnd, mk_Xpeek0 h.1 h2, mk_bs, if_pos rfl, mk_bs]
  exact mk_K73t h.1 h2
theorem mk_kxf.lp (h : mk_kxf z B w M) (n : Nat) (i : Int32) : F_CoastReader_read_b44 N (n + 1) i M = some (nI w, M) := by
  have h2 : w < 2 ^ 31 := by have := h.2.1; omega
  rw [F_CoastReader_read_b44]
  by_cases c : (240 : Int32) ≤ i
  · rw [if_pos c, h.e73]
  · rw [if_neg c, F_Tape_takes, mk_Xpeek0 h.1 h2, mk_bs, if_neg (show ¬ (0 : Int32) = (59 : Int32) by decide +kernel), mk_bs, if_pos rfl, h.e73]
theorem mk_kmf.ok (h : mk_kmf C w M) : ¬ M 48 4 = (-1 : Int32) := by
  rw [h.1]
  exact mk_nm1 (by have := h.2.1; omega)
theorem mk_kmf.lp (h : mk_kmf C w M) (n : Nat) (x : Int32) : ∃ M', F_M_readCoast_b214 N (F_M_readCoast_b49 N (n + 1)) x M = some (nI w, M') ∧ mk_kmf C w M' := by
  have h' : mk_kmf C w (mj_u M 48 3 (M 48 3 + (0 : Int32))) := ⟨by rw [mj_u_eq, mj_up_ne _ _ _ (by omega)]; exact h.1, h.2.1, h.2.2.u (by omega)⟩
  refine ⟨_, ?_, h'⟩
  rw [F_M_readCoast_b214, if_neg h.ok, F_M_readCoast_b235, F_M_readCoast_b236, if_pos rfl]
  simp only [mj_lt]
  rw [F_M_readCoast_b49, if_pos rfl, F_M_readCoast_b258, if_neg h'.ok, h'.1]
def mk_gk (τ : Nat → Nat) (z : Nat) (K : mk_S) (p1 p2 : Nat) (f g : mj_M → Option (Int32 × mj_M)) : Prop :=
  (∃ K', mk_kw K' ∧ 2 ≤ K' 48 20 ∧ 1 ≤ K' 48 21 ∧ K' 59 2 < K' 48 20 ∧ (∀ B M, mk_kx τ z B K p1 M → ∃ M', f M = some (-nI 1, M') ∧ mk_kdx K' M' ∧ M' 2 1 = nI z ∧ mk_kfx B M') ∧ (∀ C M, mk_km τ z C K p2 M → ∃ M', g M = some (-nI 1, M') ∧ mk_kdm K' M' ∧ mk_kfm C M'))
  ∨ (∃ w, w ≤ z ∧ (∀ B M, mk_kx τ z B K p1 M → ∃ M', f M = some (nI w, M') ∧ mk_kxf z B w M') ∧ (∀ C M, mk_km τ z C K p2 M → ∃ M', g M = some (nI w, M') ∧ mk_kmf C w M'))
theorem mk_kdx.u (h : mk_kdx K M) {k : Nat} {v : Int32} : mk_kdx K (mj_u M 2 k v) := by
  unfold mk_kdx at h ⊢
  simp (disch := omega) only [nw_u9]
  exact h
theorem mk_kdm.u (h : mk_kdm K M) {k : Nat} {v : Int32} (hk : k = 3 ∨ k = 4) : mk_kdm K (mj_u M 48 k v) := by
  unfold mk_kdm at h ⊢
  simp (disch := omega) only [nw_u9, mj_u_eq, mj_up_ne]
  exact h
theorem mk_Kend (hN : 1000 ≤ N) (hz : mk_tp τ z) (hp : p ≤ z) (hK : mk_kw K) (hs : mk_sq τ z p = p) : mk_gk τ z K p p (F_CoastReader_read_b73 N) (F_M_readCoast_b258 N) := by
  have hz2 := hz.1
  have hch : mk_ch τ z p = mk_c0 τ z p := by unfold mk_ch; rw [hs]
  have hc := mk_c0_lt hz p
  have hc0 := mk_c0_0 hz p
  have k1 := hK.1
  have k2 := hK.2.1
  have k59 := (hK.2.2.2.1 2 (by omega)).2
  have t2 : mk_thi (0 + 2) = 5 := rfl
  rw [t2] at k59
  by_cases c : mk_c0 τ z p = 0
  · have hpz : p = z := by omega
    subst hpz
    have dX : ∀ B M, mk_kx τ p B K p M → F_CoastReader_read_b73 N M = if K 48 20 < 2 ∨ K 48 21 < 1 ∨ ¬ K 59 2 < K 48 20 then some (nI p, mj_u M 2 3 (nI p)) else some (-nI 1, M) := by
      intro B M h
      have e4 := h.2.2.1.2.2.1 2 (by omega)
      have e0 := h.2.2.1.1
      have e1 := h.2.2.1.2.1
      have e4 : M 41 4 = nI (K 59 2) := e4
      have b119 : F_CoastReader_read_b119 N M = some (nI p, mj_u M 2 3 (nI p)) := by
        rw [F_CoastReader_read_b119, h.1.1.2.1, mk_Xfail h.1.2.2.2, mk_bs, mj_u_eq, mj_up_eq]
      rw [F_CoastReader_read_b73, F_Tape_demandEnd, h.1.pk hN, mk_bs, hs, mj_us_ h.1.2.2.1]
      dsimp only
      rw [hch, c, if_pos (show nI 0 = (0 : Int32) from rfl), mk_bs, e0, e1, e4, b119, h.1.2.2.2, nl_2, nl_1]
      simp (disch := omega) only [nw_lt]
      by_cases q1 : K 48 20 < 2
      · rw [if_pos q1, if_pos (Or.inl q1)]
      · rw [if_neg q1]
        by_cases q2 : K 48 21 < 1
        · rw [if_pos q2, if_pos (Or.inr (Or.inl q2))]
        · rw [if_neg q2]
          by_cases q3 : K 59 2 < K 48 20
          · rw [if_pos q3, if_neg (by omega)]
          · rw [if_neg q3, if_pos (by omega)]
    have dM : ∀ C M, mk_km τ p C K p M → F_M_readCoast_b258 N M = if K 48 20 < 2 ∨ K 48 21 < 1 ∨ ¬ K 59 2 < K 48 20 then some (nI p, mj_u M 48 4 (nI p)) else some (-nI 1, M) := by
      intro C M h
      have e4 := h.2.1.2.2.1 2 (by omega)
      have e0 := h.2.1.1
      have e1 := h.2.1.2.1
      have b302 : F_M_readCoast_b302 N M = some (nI p, mj_u M 48 4 (nI p)) := by
        rw [F_M_readCoast_b302, mk_Mbad h.1.2.2.2, mk_bs, h.1.2.2.1, mj_u_eq, mj_up_eq]
      rw [F_M_readCoast_b258, if_pos h.1.ok, h.1.pk hN, mk_bs, hs, mj_us_ h.1.2.2.1]
      dsimp only
      rw [hch, c, if_pos (show mk_mc 0 = (-1 : Int32) by decide +kernel)]
      simp (disch := omega) only [e0, e1, e4, b302, h.1.2.2.2, nl_2, nl_0, nw_lt, nw_eq]
      by_cases q1 : K 48 20 < 2
      · rw [if_pos q1, if_pos (Or.inl q1)]
      · rw [if_neg q1]
        by_cases q2 : K 48 21 < 1
        · rw [if_pos (by omega), if_pos (Or.inr (Or.inl q2))]
        · rw [if_neg (by omega)]
          by_cases q3 : K 59 2 < K 48 20
          · rw [if_pos q3, if_neg (by omega)]
          · rw [if_neg q3, if_pos (by omega)]
    by_cases q : K 48 20 < 2 ∨ K 48 21 < 1 ∨ ¬ K 59 2 < K 48 20
    · refine Or.inr ⟨p, Nat.le_refl _, fun B M h => ⟨_, by rw [dX B M h, if_pos q], by rw [mj_u_eq, mj_up_eq], by omega, by rw [mj_u_eq, mj_up_ne _ _ _ (by omega)]; exact h.1.1.2.1, h.2.2.2.u (by omega)⟩, fun C M h => ⟨_, by rw [dM C M h, if_pos q], by rw [mj_u_eq, mj_up_eq], by omega, h.2.2.u (by omega)⟩⟩
    · exact Or.inl ⟨K, hK, by omega, by omega, by omega, fun B M h => ⟨M, by rw [dX B M h, if_neg q], h.2.2.1, h.1.1.2.1, h.2.2.2⟩, fun C M h => ⟨M, by rw [dM C M h, if_neg q], h.2.1, h.2.2⟩⟩
  · refine Or.inr ⟨p, hp, fun B M h => ?_, fun C M h => ?_⟩
    · have hf : mk_kxf z B p (mj_u M 2 3 (nI p)) := ⟨by rw [mj_u_eq, mj_up_eq], by omega, by rw [mj_u_eq, mj_up_ne _ _ _ (by omega)]; exact h.1.1.2.1, h.2.2.2.u (by omega)⟩
      refine ⟨_, ?_, hf⟩
      rw [F_CoastReader_read_b73, F_Tape_demandEnd, h.1.pk hN, mk_bs, hs, mj_us_ h.1.2.2.1]
      dsimp only
      rw [hch, if_neg (by rw [nl_0, nw_eq (by omega) (by omega)]; exact c), h.1.2.2.1, mk_Xfail h.1.2.2.2, mk_bs, mk_bs]
      exact mk_K73t hf.1 (by omega)
    · refine ⟨_, ?_, by rw [mj_u_eq, mj_up_eq], by omega, h.2.2.u (by omega)⟩
      rotate_left
      · rw [F_M_readCoast_b258, if_pos h.1.ok, h.1.pk hN, mk_bs, hs, mj_us_ h.1.2.2.1]
        dsimp only
        rw [hch, if_neg (by rw [nl_m1, mk_mc_m1 hc]; exact c), F_M_readCoast_b302, mk_Mbad h.1.2.2.2, mk_bs, h.1.2.2.1, mj_u_eq, mj_up_eq]
theorem mk_kx.at (h : mk_kx τ z B K p M) {p' : Nat} (hz : p' ≤ z) : mk_kx τ z B K p' (mj_u M 2 2 (nI p')) := ⟨h.1.at hz, by rw [nw_u9 _ (by omega)]; exact h.2.1, h.2.2.1.u, h.2.2.2.u (by omega)⟩
theorem mk_km.at (h : mk_km τ z C K p M) {p' : Nat} (hz : p' ≤ z) : mk_km τ z C K p' (mj_u M 48 3 (nI p')) := ⟨h.1.at hz, h.2.1.u (by omega), h.2.2.u (by omega)⟩
theorem mk_Klp (hN : 1000 ≤ N) (hz : mk_tp τ z) : ∀ k K p1 p2 i n m, z - p1 < k → i < p1 → p1 ≤ z → p2 ≤ z → mk_sq τ z p1 = mk_sq τ z p2 → k ≤ n → k ≤ m → mk_kw K → mk_gk τ z K p1 p2 (F_CoastReader_read_b44 N n (nI i)) (F_M_readCoast_b214 N (F_M_readCoast_b49 N m) (nI (K 4 3))) := by
  have hz2 := hz.1
  intro k
  induction k with
  | zero => intro K p1 p2 i n m h1; omega
  | succ k ih =>
    intro K p1 p2 i n m h1 h2 h3 h4 h5 h6 h7 hK
    obtain ⟨n, rfl⟩ : ∃ k, n = k + 1 := ⟨n - 1, by omega⟩
    obtain ⟨m, rfl⟩ : ∃ k, m = k + 1 := ⟨m - 1, by omega⟩
    have hs := mk_sq_in τ z p1
    have hc := mk_c0_lt hz (mk_sq τ z p1)
    have hc0 := mk_c0_0 hz (mk_sq τ z p1)
    have hch1 : mk_ch τ z p1 = mk_c0 τ z (mk_sq τ z p1) := rfl
    have hch2 : mk_ch τ z p2 = mk_c0 τ z (mk_sq τ z p1) := by unfold mk_ch; rw [h5]
    have sq2 := mk_sq2 τ z p1
    have i240 : ¬ (240 : Int32) ≤ nI i := by rw [nl_240]; exact nI_ge (by omega) (by omega)
    have e10 : ¬ (1 : Int32) = 0 := by decide +kernel
    by_cases c : mk_c0 τ z (mk_sq τ z p1) = 59
    · have hlt : mk_sq τ z p1 < z := by omega
      have eX : ∀ B M, mk_kx τ z B K p1 M → mk_kx τ z B K (mk_sq τ z p1 + 1) (mj_u M 2 2 (nI (mk_sq τ z p1 + 1))) ∧ F_CoastReader_read_b44 N (n + 1) (nI i) M = (F_CoastReader_readClause N (mj_u M 2 2 (nI (mk_sq τ z p1 + 1)))).bind (fun q11 => F_CoastReader_read_b44 N n (nI (i + 1)) q11) := by
        intro B M h
        refine ⟨h.at (by omega), ?_⟩
        rw [F_CoastReader_read_b44, if_neg i240, F_Tape_takes, h.1.pk hN, mk_bs]
        dsimp only
        rw [hch1, c, if_pos (show nI 59 = (59 : Int32) from rfl)]
        simp only [mj_lt]
        rw [mk_bs]
        dsimp only
        rw [if_neg e10, mj_u_eq, mj_up_eq, nI_1, mj_uu, nI_1]
      have eM : ∀ C M, mk_km τ z C K p2 M → mk_km τ z C K (mk_sq τ z p1 + 1) (mj_u M 48 3 (nI (mk_sq τ z p1 + 1))) ∧ F_M_readCoast_b214 N (F_M_readCoast_b49 N (m + 1)) (nI (K 4 3)) M = F_M_readCoast_b49 N (m + 1) (nI (K 4 3)) (1 : Int32) (mj_u M 48 3 (nI (mk_sq τ z p1 + 1))) := by
        intro C M h
        refine ⟨h.at (by omega), ?_⟩
        rw [F_M_readCoast_b214, if_pos h.1.ok, h.1.pk hN, mk_bs]
        dsimp only
        rw [hch2, c, if_pos (show mk_mc 59 = (59 : Int32) by decide +kernel), F_M_readCoast_b236, if_neg e10]
        simp only [mj_lt]
        rw [mj_u_eq, mj_up_eq, nI_1, mj_uu, ← h5]
      rcases mk_Kcl (p := mk_sq τ z p1 + 1) hN hz (by omega) hK with ⟨K', q1, q2, a1, a2, a3, a4, a5, a6, a7⟩ | ⟨w, a1, a2, a3⟩
      · rcases ih K' q1 q2 (i + 1) n m (by omega) (by omega) a2 a3 a4 (by omega) (by omega) a5 with ⟨K2, b1, b2, b3, b4, b5, b6⟩ | ⟨w, b1, b2, b3⟩
        · refine Or.inl ⟨K2, b1, b2, b3, b4, fun B M h => ?_, fun C M h => ?_⟩
          · obtain ⟨x1, x2⟩ := eX B M h
            obtain ⟨M2, x3, x4⟩ := a6 B _ x1
            obtain ⟨M3, x5, x6⟩ := b5 B M2 x4
            exact ⟨M3, by rw [x2, x3, mk_bs, x5], x6⟩
          · obtain ⟨x1, x2⟩ := eM C M h
            obtain ⟨M2, x3, x4⟩ := a7 C _ m x1
            obtain ⟨M3, x5, x6⟩ := b6 C M2 x4
            exact ⟨M3, by rw [x2, x3, x5], x6⟩
        · refine Or.inr ⟨w, b1, fun B M h => ?_, fun C M h => ?_⟩
          · obtain ⟨x1, x2⟩ := eX B M h
            obtain ⟨M2, x3, x4⟩ := a6 B _ x1
            obtain ⟨M3, x5, x6⟩ := b2 B M2 x4
            exact ⟨M3, by rw [x2, x3, mk_bs, x5], x6⟩
          · obtain ⟨x1, x2⟩ := eM C M h
            obtain ⟨M2, x3, x4⟩ := a7 C _ m x1
            obtain ⟨M3, x5, x6⟩ := b3 C M2 x4
            exact ⟨M3, by rw [x2, x3, x5], x6⟩
      · obtain ⟨n, rfl⟩ : ∃ k, n = k + 1 := ⟨n - 1, by omega⟩
        obtain ⟨m, rfl⟩ : ∃ k, m = k + 1 := ⟨m - 1, by omega⟩
        refine Or.inr ⟨w, a1, fun B M h => ?_, fun C M h => ?_⟩
        · obtain ⟨x1, x2⟩ := eX B M h
          obtain ⟨M2, x3, x4⟩ := a2 B _ x1
          exact ⟨M2, by rw [x2, x3, mk_bs, x4.lp], x4⟩
        · obtain ⟨x1, x2⟩ := eM C M h
          obtain ⟨M2, x, x3, x4⟩ := a3 C _ (m + 1) x1
          obtain ⟨M3, x5, x6⟩ := x4.lp (N := N) m x
          exact ⟨M3, by rw [x2, x3, x5], x6⟩
    · have eX : ∀ B M, mk_kx τ z B K p1 M → mk_kx τ z B K (mk_sq τ z p1) (mj_u M 2 2 (nI (mk_sq τ z p1))) ∧ F_CoastReader_read_b44 N (n + 1) (nI i) M = F_CoastReader_read_b73 N (mj_u M 2 2 (nI (mk_sq τ z p1))) := by
        intro B M h
        refine ⟨h.at (by omega), ?_⟩
        rw [F_CoastReader_read_b44, if_neg i240, F_Tape_takes, h.1.pk hN, mk_bs]
        dsimp only
        rw [hch1, if_neg (by rw [nl_59, nw_eq (by omega) (by omega)]; exact c), mk_bs]
        dsimp only
        rw [if_pos rfl]
      have eM : ∀ C M, mk_km τ z C K p2 M → mk_km τ z C K (mk_sq τ z p1) (mj_u M 48 3 (nI (mk_sq τ z p1))) ∧ F_M_readCoast_b214 N (F_M_readCoast_b49 N (m + 1)) (nI (K 4 3)) M = F_M_readCoast_b258 N (mj_u M 48 3 (nI (mk_sq τ z p1))) := by
        intro C M h
        refine ⟨h.at (by omega), ?_⟩
        rw [F_M_readCoast_b214, if_pos h.1.ok, h.1.pk hN, mk_bs]
        dsimp only
        rw [hch2, if_neg (by rw [nl_59, mk_mc_eq hc (by omega) (by omega)]; exact c), F_M_readCoast_b235, F_M_readCoast_b236, if_pos rfl]
        simp only [mj_lt]
        rw [mj_u_eq, mj_up_eq, nl_0, nI_add, mj_uu, ← h5, F_M_readCoast_b49, if_pos (show nI 0 = (0 : Int32) from rfl)]
        rfl
      rcases mk_Kend (p := mk_sq τ z p1) hN hz (by omega) hK sq2 with ⟨K2, b1, b2, b3, b4, b5, b6⟩ | ⟨w, b1, b2, b3⟩
      · refine Or.inl ⟨K2, b1, b2, b3, b4, fun B M h => ?_, fun C M h => ?_⟩
        · obtain ⟨x1, x2⟩ := eX B M h
          obtain ⟨M3, x5, x6⟩ := b5 B _ x1
          exact ⟨M3, by rw [x2, x5], x6⟩
        · obtain ⟨x1, x2⟩ := eM C M h
          obtain ⟨M3, x5, x6⟩ := b6 C _ x1
          exact ⟨M3, by rw [x2, x5], x6⟩
      · refine Or.inr ⟨w, b1, fun B M h => ?_, fun C M h => ?_⟩
        · obtain ⟨x1, x2⟩ := eX B M h
          obtain ⟨M3, x5, x6⟩ := b2 B _ x1
          exact ⟨M3, by rw [x2, x5], x6⟩
        · obtain ⟨x1, x2⟩ := eM C M h
          obtain ⟨M3, x5, x6⟩ := b3 C _ x1
          exact ⟨M3, by rw [x2, x5], x6⟩
end Coasts
