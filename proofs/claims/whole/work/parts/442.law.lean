/-! ===== the pure side: a law from its first sign to its end ===== -/
section Law2
variable {N : Nat} {τ : Nat → Nat} {z : Nat} {B C M : mj_M} {r d p w s : Nat} {l : List Nat} {L : List mk_T} {D : List mk_C}
theorem mk_lx.tk (h : mk_lx τ z B p l M) (hN : 1000 ≤ N) {v : Int32} {cc : Nat} (hv : v = nI cc) (hcc : 0 < cc) (hc : mk_ch τ z p = cc) : ∃ M', F_Tape_takes N v M = some (1, M') ∧ mk_lx τ z B (mk_sq τ z p + 1) l M' := by
  obtain ⟨M1, x1, x2⟩ := h.pk hN
  have hc0 := mk_c0_0 h.1.1 (mk_sq τ z p)
  have hs := x2.2.1
  refine ⟨_, ?_, x2.nx (by unfold mk_ch at hc; omega)⟩
  rw [F_Tape_takes, x1, mk_bs, hc, if_pos hv.symm]
  rfl
theorem mk_lx.tn (h : mk_lx τ z B p l M) (hN : 1000 ≤ N) {v : Int32} {cc : Nat} (hv : v = nI cc) (hcc : cc < 256) (hc : ¬ mk_ch τ z p = cc) : ∃ M', F_Tape_takes N v M = some (0, M') ∧ mk_lx τ z B (mk_sq τ z p) l M' := by
  obtain ⟨M1, x1, x2⟩ := h.pk hN
  have hl := mk_c0_lt h.1.1 (mk_sq τ z p)
  refine ⟨M1, ?_, x2⟩
  rw [F_Tape_takes, x1, mk_bs, hv, if_neg (by rw [nw_eq (by unfold mk_ch; omega) (by omega)]; exact hc)]
theorem mk_lxf.tk (h : mk_lxf B w M) {v : Int32} {cc : Nat} (hv : v = nI cc) (hcc : 0 < cc ∧ cc < 256) : F_Tape_takes N v M = some (0, M) := by
  rw [F_Tape_takes, h.pk, mk_bs, hv, if_neg (show ¬ (0 : Int32) = nI cc by rw [nl_0, nw_eq (by omega) (by omega)]; omega)]
theorem mk_lxf.en (h : mk_lxf B w M) : F_Tape_demandEnd N M = some M := by
  rw [F_Tape_demandEnd, h.pk, mk_bs, if_pos rfl]
theorem mk_lxf.lp (h : mk_lxf B w M) (n : Nat) (i : Int32) : F_LawReader_read_b18 N (n + 1) i M = some (nI w, M) := by
  have e : F_LawReader_read_b47 N M = some (nI w, M) := by rw [F_LawReader_read_b47, h.en, mk_bs, h.1]
  rw [F_LawReader_read_b18]
  by_cases c : (240 : Int32) ≤ i
  · rw [if_pos c, e]
  · rw [if_neg c, h.tk nl_59 (by omega), mk_bs, if_pos rfl, e]
theorem mk_lcf.lp (h : mk_lcf C r w M) (n : Nat) : F_M_readLaw_b9 N (n + 1) M = some (nI w, M) := by
  rw [F_M_readLaw_b9, if_neg h.ok, F_M_readLaw_b43, F_M_atEnd, if_neg h.ok, mk_bs, h.2.2.1]
def mk_gl (N : Nat) (τ : Nat → Nat) (z r : Nat) (D : List mk_C) (p : Nat) (f g : mj_M → Option (Int32 × mj_M)) : Prop :=
  (∃ D', (∀ q, q ∈ D' → mk_wc q) ∧ (∀ B M, mk_lx τ z B p (mk_en D) M → ∃ M' p', f M = some (-nI 1, M') ∧ mk_lx τ z B p' (mk_en D') M') ∧ (∀ C M, mk_lc τ z C r D p (mk_fl D) M → ∃ M' p', g M = some (-nI 1, M') ∧ mk_lc τ z C r D' p' (mk_fl D') M'))
  ∨ (∃ w, w ≤ z ∧ (∀ B M, mk_lx τ z B p (mk_en D) M → ∃ M', f M = some (nI w, M') ∧ mk_lxf B w M') ∧ (∀ C M, mk_lc τ z C r D p (mk_fl D) M → ∃ M', g M = some (nI w, M') ∧ mk_lcf C r w M'))
theorem mk_Alp (hN : 1000 ≤ N) (hz : mk_tp τ z) : ∀ k D p i n m, z - p < k → i < p → p ≤ z → k ≤ n → k ≤ m → (∀ q, q ∈ D → mk_wc q) → mk_gl N τ z r D p (F_LawReader_read_b18 N n (nI i)) (F_M_readLaw_b9 N m) := by
  have hz2 := hz.1
  intro k
  induction k with
  | zero => intro D p i n m h1; omega
  | succ k ih =>
    intro D p i n m h1 h2 h3 h4 h5 hD
    obtain ⟨n, rfl⟩ : ∃ k, n = k + 1 := ⟨n - 1, by omega⟩
    obtain ⟨m, rfl⟩ : ∃ k, m = k + 1 := ⟨m - 1, by omega⟩
    have hs := mk_sq_in τ z p
    have hc := mk_c0_lt hz (mk_sq τ z p)
    have hc0 := mk_c0_0 hz (mk_sq τ z p)
    have hch : mk_ch τ z p = mk_c0 τ z (mk_sq τ z p) := rfl
    have hch2 : mk_ch τ z (mk_sq τ z p) = mk_c0 τ z (mk_sq τ z p) := by unfold mk_ch; rw [mk_sq2]
    have i240 : ¬ (240 : Int32) ≤ nI i := by rw [nl_240]; exact nI_ge (by omega) (by omega)
    have e10 : ¬ (1 : Int32) = 0 := by decide +kernel
    by_cases c : mk_c0 τ z (mk_sq τ z p) = 59
    · have hlt : mk_sq τ z p < z := by omega
      have eX : ∀ B M, mk_lx τ z B p (mk_en D) M → ∃ M1, mk_lx τ z B (mk_sq τ z p + 1) (mk_en D) M1 ∧ F_LawReader_read_b18 N (n + 1) (nI i) M = (F_LawReader_readClause N M1).bind (fun q7 => F_LawReader_read_b18 N n (nI (i + 1)) q7) := by
        intro B M h
        obtain ⟨M1, x1, x2⟩ := h.tk hN nl_59 (by omega) c
        refine ⟨M1, x2, ?_⟩
        rw [F_LawReader_read_b18, if_neg i240, x1, mk_bs, if_neg e10, nI_1]
      have eM : ∀ C M, mk_lc τ z C r D p (mk_fl D) M → ∃ M1, mk_lc τ z C r D (mk_sq τ z p + 1) (mk_fl D) M1 ∧ F_M_readLaw_b9 N (m + 1) M = (F_M_clause N M1).bind (fun q7 => F_M_readLaw_b9 N m q7) := by
        intro C M h
        obtain ⟨M1, x1, x2⟩ := h.1.pk hN
        obtain ⟨w1, w2⟩ := h.run (x2.nx hlt) (by omega)
        refine ⟨_, w1, ?_⟩
        rw [F_M_readLaw_b9, if_pos h.1.ok, x1, mk_bs, hch, c, if_pos (show mk_mc 59 = (59 : Int32) by decide +kernel)]
        rfl
      rcases mk_Aclause (r := r) hN hz (show mk_sq τ z p + 1 ≤ z by omega) D with ⟨p', q, a1, a2, a3, a4, a5⟩ | ⟨w, a1, a2, a3⟩
      · rcases ih (D ++ [q]) p' (i + 1) n m (by omega) (by omega) a2 (by omega) (by omega) (fun q' hq => by
          rcases List.mem_append.mp hq with h | h
          · exact hD q' h
          · rw [List.mem_singleton.mp h]; exact a3) with ⟨D', b1, b2, b3⟩ | ⟨w, b1, b2, b3⟩
        · refine Or.inl ⟨D', b1, fun B M h => ?_, fun C M h => ?_⟩
          · obtain ⟨M1, x1, x2⟩ := eX B M h
            obtain ⟨M2, x3, x4⟩ := a4 B M1 x1
            obtain ⟨M3, p3, x5, x6⟩ := b2 B M2 x4
            exact ⟨M3, p3, by rw [x2, x3, mk_bs, x5], x6⟩
          · obtain ⟨M1, x1, x2⟩ := eM C M h
            obtain ⟨M2, x3, x4⟩ := a5 C M1 x1
            obtain ⟨M3, p3, x5, x6⟩ := b3 C M2 x4
            exact ⟨M3, p3, by rw [x2, x3, mk_bs, x5], x6⟩
        · refine Or.inr ⟨w, b1, fun B M h => ?_, fun C M h => ?_⟩
          · obtain ⟨M1, x1, x2⟩ := eX B M h
            obtain ⟨M2, x3, x4⟩ := a4 B M1 x1
            obtain ⟨M3, x5, x6⟩ := b2 B M2 x4
            exact ⟨M3, by rw [x2, x3, mk_bs, x5], x6⟩
          · obtain ⟨M1, x1, x2⟩ := eM C M h
            obtain ⟨M2, x3, x4⟩ := a5 C M1 x1
            obtain ⟨M3, x5, x6⟩ := b3 C M2 x4
            exact ⟨M3, by rw [x2, x3, mk_bs, x5], x6⟩
      · obtain ⟨n, rfl⟩ : ∃ k, n = k + 1 := ⟨n - 1, by omega⟩
        obtain ⟨m, rfl⟩ : ∃ k, m = k + 1 := ⟨m - 1, by omega⟩
        refine Or.inr ⟨w, a1, fun B M h => ?_, fun C M h => ?_⟩
        · obtain ⟨M1, x1, x2⟩ := eX B M h
          obtain ⟨M2, x3, x4⟩ := a2 B M1 x1
          exact ⟨M2, by rw [x2, x3, mk_bs, x4.lp], x4⟩
        · obtain ⟨M1, x1, x2⟩ := eM C M h
          obtain ⟨M2, x3, x4⟩ := a3 C M1 x1
          exact ⟨M2, by rw [x2, x3, mk_bs, x4.lp], x4⟩
    · have eX : ∀ B M, mk_lx τ z B p (mk_en D) M → ∃ M1, mk_lx τ z B (mk_sq τ z p) (mk_en D) M1 ∧ F_LawReader_read_b18 N (n + 1) (nI i) M = F_LawReader_read_b47 N M1 := by
        intro B M h
        obtain ⟨M1, x1, x2⟩ := h.tn hN nl_59 (by omega) c
        refine ⟨M1, x2, ?_⟩
        rw [F_LawReader_read_b18, if_neg i240, x1, mk_bs, if_pos rfl]
      have eM : ∀ C M, mk_lc τ z C r D p (mk_fl D) M → ∃ M1, mk_lc τ z C r D (mk_sq τ z p) (mk_fl D) M1 ∧ F_M_readLaw_b9 N (m + 1) M = F_M_readLaw_b43 N M1 := by
        intro C M h
        obtain ⟨M1, x1, x2⟩ := h.1.pk hN
        obtain ⟨w1, w2⟩ := h.run x2 (by omega)
        refine ⟨_, w1, ?_⟩
        rw [F_M_readLaw_b9, if_pos h.1.ok, x1, mk_bs, hch, if_neg (by rw [nl_59, mk_mc_eq hc (by omega) (by omega)]; exact c)]
      by_cases c0 : mk_c0 τ z (mk_sq τ z p) = 0
      · refine Or.inl ⟨D, hD, fun B M h => ?_, fun C M h => ?_⟩
        · obtain ⟨M1, x1, x2⟩ := eX B M h
          obtain ⟨M2, x3, x4⟩ := x1.pk hN
          refine ⟨M2, _, ?_, x4⟩
          rw [x2, F_LawReader_read_b47, F_Tape_demandEnd, x3, mk_bs, hch2, c0, if_pos (show nI 0 = (0 : Int32) from rfl), mk_bs]
          show some (M2 2 3, M2) = _
          rw [x4.2.2.2.1]
        · obtain ⟨M1, x1, x2⟩ := eM C M h
          obtain ⟨M2, x3, x4⟩ := x1.1.pk hN
          have hs2 := mk_sq_in τ z (mk_sq τ z p)
          obtain ⟨w1, w2⟩ := x1.run x4 hs2.1
          refine ⟨M2, _, ?_, w1⟩
          rw [x2, F_M_readLaw_b43, F_M_atEnd, if_pos x1.1.ok, x3, mk_bs, hch2, c0, if_pos (show mk_mc 0 = (-1 : Int32) by decide +kernel), mk_bs]
          show some (M2 48 4, M2) = _
          rw [w1.1.2.2.2.2.2.1]
      · refine Or.inr ⟨mk_sq τ z p, by omega, fun B M h => ?_, fun C M h => ?_⟩
        · obtain ⟨M1, x1, x2⟩ := eX B M h
          obtain ⟨M2, x3, x4⟩ := x1.pk hN
          rw [mk_sq2] at x4
          obtain ⟨M3, x5, x6⟩ := x4.fl (v := M2 2 2) x4.2.2.1 (by omega)
          refine ⟨M3, ?_, x6⟩
          rw [x2, F_LawReader_read_b47, F_Tape_demandEnd, x3, mk_bs, hch2, if_neg (by rw [nl_0, nw_eq (by omega) (by omega)]; exact c0), x5, mk_bs, mk_bs, x6.1]
        · obtain ⟨M1, x1, x2⟩ := eM C M h
          obtain ⟨M2, x3, x4⟩ := x1.1.pk hN
          rw [mk_sq2] at x4
          obtain ⟨M3, x5, x6⟩ := x4.bd
          refine ⟨M3, ?_, x1.runf x6⟩
          rw [x2, F_M_readLaw_b43, F_M_atEnd, if_pos x1.1.ok, x3, mk_bs, hch2, if_neg (by rw [nl_m1, mk_mc_m1 hc]; exact c0), x5, mk_bs, mk_bs, x6.2.2.1]
/-- a law's text, both readers: the same fault, or none and the same law -/
theorem mk_Alaw (hN : 1000 ≤ N) (hz : mk_tp τ z) (hr : r ≤ 4) :
    (∃ D, (∀ q, q ∈ D → mk_wc q) ∧ (∀ M, mk_xt1 τ z M → ∃ M' p', F_LawReader_read N M = some (-nI 1, M') ∧ mk_lx τ z M p' (mk_en D) M') ∧ (∀ M, mk_mt1 τ z M → ∃ M' p', F_M_readLaw N (nI r) M = some (-nI 1, M') ∧ mk_lc τ z M r D p' (mk_fl D) M'))
    ∨ (∃ w, w ≤ z ∧ (∀ M, mk_xt1 τ z M → ∃ M', F_LawReader_read N M = some (nI w, M') ∧ mk_lxf M w M') ∧ (∀ M, mk_mt1 τ z M → ∃ M', F_M_readLaw N (nI r) M = some (nI w, M') ∧ mk_lcf M r w M')) := by
  have hz2 := hz.1
  have eX : ∀ M, mk_xt1 τ z M → ∃ M1, mk_lx τ z M 0 (mk_en []) M1 ∧ F_LawReader_read N M = (F_LawReader_readClause N M1).bind (fun q3 => F_LawReader_read_b18 N N (nI 0) q3) := by
    intro M h
    refine ⟨mj_u (mj_u (mj_u M 2 2 (0 : Int32)) 2 3 (-1 : Int32)) 6 1 (0 : Int32), ⟨((h.u (by omega)).u (by omega)).u (by omega), Nat.zero_le _, by rw [nw_u9 _ (by omega), mj_u_eq, mj_up_ne _ _ _ (by omega), mj_u_eq, mj_up_eq]; rfl, by rw [nw_u9 _ (by omega), mj_u_eq, mj_up_eq]; rfl, Nat.le_refl _, by rw [mj_u_eq, mj_up_eq]; rfl, trivial, ?_⟩, ?_⟩
    · have hb : mk_lxb M M := ⟨rfl, fun _ _ _ _ => rfl⟩
      exact ((hb.u (by omega)).u (by omega)).u (by omega)
    · rfl
  have eM : ∀ M, mk_mt1 τ z M → ∃ M1, mk_lc τ z M r [] 0 (mk_fl []) M1 ∧ F_M_readLaw N (nI r) M = (F_M_clause N M1).bind (fun q2 => F_M_readLaw_b9 N N q2) := by
    intro M h
    have hb : mk_lmc r M M := fun _ _ _ => rfl
    refine ⟨mj_u (mj_u (mj_u (mj_u (mj_u (mj_u M 48 14 (nI r)) 48 3 (0 : Int32)) 48 4 (-1 : Int32)) 48 5 (0 : Int32)) 52 r (0 : Int32)) 53 r (0 : Int32), ⟨⟨(((((h.u (by omega)).u (by omega)).u (by omega)).u (by omega)).u (by omega)).u (by omega), Nat.zero_le _, hr, ?_, ?_, ?_, ?_, by omega, Nat.le_refl _, ?_, trivial, fun _ _ _ => rfl⟩, ?_, Nat.le_refl _, trivial, (((((hb.u (by omega)).u (by omega)).u (by omega)).u (by omega)).u (by omega)).u (by omega)⟩, ?_⟩
    · simp (disch := omega) only [nw_u9, mj_u_eq, mj_up_eq, mj_up_ne]
    · simp (disch := omega) only [nw_u9, mj_u_eq, mj_up_eq, mj_up_ne]; rfl
    · simp (disch := omega) only [nw_u9, mj_u_eq, mj_up_eq, mj_up_ne]; rfl
    · simp (disch := omega) only [nw_u9, mj_u_eq, mj_up_eq, mj_up_ne]; rfl
    · simp (disch := omega) only [nw_u9, mj_u_eq, mj_up_eq, mj_up_ne]; rfl
    · simp (disch := omega) only [nw_u9, mj_u_eq, mj_up_eq, mj_up_ne]; rfl
    · rw [F_M_readLaw, F_M_open]
      simp only [mj_lt]
      rw [nw_ck (by omega) (by omega), nw_ck (by omega) (by omega), nI_clamp (by omega), mk_bs]
  obtain ⟨n, hn⟩ : ∃ k, N = k + 1 := ⟨N - 1, by omega⟩
  rcases mk_Aclause (r := r) hN hz (Nat.zero_le z) [] with ⟨p', q, a1, a2, a3, a4, a5⟩ | ⟨w, a1, a2, a3⟩
  · rcases mk_Alp (r := r) hN hz (z - p' + 1) [q] p' 0 N N (by omega) (by omega) a2 (by omega) (by omega) (fun q' h => by rw [List.mem_singleton.mp h]; exact a3) with ⟨D', b1, b2, b3⟩ | ⟨w, b1, b2, b3⟩
    · refine Or.inl ⟨D', b1, fun M h => ?_, fun M h => ?_⟩
      · obtain ⟨M1, x1, x2⟩ := eX M h
        obtain ⟨M2, x3, x4⟩ := a4 M M1 x1
        obtain ⟨M3, p3, x5, x6⟩ := b2 M M2 x4
        exact ⟨M3, p3, by rw [x2, x3, mk_bs, x5], x6⟩
      · obtain ⟨M1, x1, x2⟩ := eM M h
        obtain ⟨M2, x3, x4⟩ := a5 M M1 x1
        obtain ⟨M3, p3, x5, x6⟩ := b3 M M2 x4
        exact ⟨M3, p3, by rw [x2, x3, mk_bs, x5], x6⟩
    · refine Or.inr ⟨w, b1, fun M h => ?_, fun M h => ?_⟩
      · obtain ⟨M1, x1, x2⟩ := eX M h
        obtain ⟨M2, x3, x4⟩ := a4 M M1 x1
        obtain ⟨M3, x5, x6⟩ := b2 M M2 x4
        exact ⟨M3, by rw [x2, x3, mk_bs, x5], x6⟩
      · obtain ⟨M1, x1, x2⟩ := eM M h
        obtain ⟨M2, x3, x4⟩ := a5 M M1 x1
        obtain ⟨M3, x5, x6⟩ := b3 M M2 x4
        exact ⟨M3, by rw [x2, x3, mk_bs, x5], x6⟩
  · refine Or.inr ⟨w, a1, fun M h => ?_, fun M h => ?_⟩
    · obtain ⟨M1, x1, x2⟩ := eX M h
      obtain ⟨M2, x3, x4⟩ := a2 M M1 x1
      have e := x4.lp (N := N) n (nI 0)
      rw [← hn] at e
      exact ⟨M2, by rw [x2, x3, mk_bs, e], x4⟩
    · obtain ⟨M1, x1, x2⟩ := eM M h
      obtain ⟨M2, x3, x4⟩ := a3 M M1 x1
      have e := x4.lp (N := N) n
      rw [← hn] at e
      exact ⟨M2, by rw [x2, x3, mk_bs, e], x4⟩
end Law2
