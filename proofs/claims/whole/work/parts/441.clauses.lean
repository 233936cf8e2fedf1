/-! ===== the pure side: a law, both readers ===== -/
section Clauses
variable {N : Nat} {τ : Nat → Nat} {z : Nat} {B C M : mj_M} {r d p w s : Nat} {l : List Nat} {L : List mk_T} {D : List mk_C}
theorem mk_lc.v1 (h : mk_lc τ z C r D p L M) : (140 : Int32) * nI r + M 53 (nI r).toNatClampNeg = nI (140 * r + D.length) := by
  have hr := h.1.2.2.1
  rw [nI_clamp (by omega), h.2.1, nl_140, pk_mul, nI_add]
theorem mk_Mpre (hN : 1000 ≤ N) (h : mk_lc τ z C r D p L M) (h1 : mk_ch τ z p = 121) (h2 : mk_ch τ z (mk_sq τ z p + 1) = 58) : ∃ M1, mk_lc τ z C r D (mk_sq τ z (mk_sq τ z p + 1) + 1) L M1 ∧ M1 54 (140 * r + D.length) = nI L.length ∧ F_M_clause N M = (F_M_look N M1).bind (fun q14 =>
     if q14.1 = (33 : Int32) then
     (F_M_clause_b123 N (nI (140 * r + D.length)) q14.2)
     else
     ((F_M_look N q14.2).bind (fun q16 =>
     if q16.1 = (40 : Int32) then
     (F_M_clause_b123 N (nI (140 * r + D.length)) q16.2)
     else
     (F_M_clause_b128 N (nI (140 * r + D.length)) (0 : Int32) q16.2)))) := by
  have hz2 := h.1.z240
  have hz := h.1.1.1
  have hr := h.1.2.2.1
  have hD := h.2.2.1
  have hv := h.v1
  have hp := h.1.2.1
  have s1 := mk_sq_in τ z p
  have c1 := mk_c0_0 hz (mk_sq τ z p)
  have l1 : mk_sq τ z p < z := by unfold mk_ch at h1; omega
  have s2 := mk_sq_in τ z (mk_sq τ z p + 1)
  have c2 := mk_c0_0 hz (mk_sq τ z (mk_sq τ z p + 1))
  have l2 : mk_sq τ z (mk_sq τ z p + 1) < z := by
    have h2' := h2
    unfold mk_ch at h2'
    omega
  obtain ⟨M1, x1, x2⟩ := h.1.pk hN
  have x2n := x2.nx l1
  obtain ⟨M2, x3, x4⟩ := x2n.pk hN
  have x4n := x4.nx l2
  obtain ⟨w1, w2⟩ := h.run x4n (by omega)
  have w14 := w1.1.2.2.2.1
  have w52 := w1.1.2.2.2.2.2.2.2.2.2.1
  refine ⟨_, w1.u (c := 54) (v := nI L.length) (by omega), by rw [mj_u_eq, mj_up_eq], ?_⟩
  rw [F_M_clause, h.1.2.2.2.1, nw_ck (by omega) (by omega), hv]
  simp only [mj_lt]
  rw [if_pos h.1.ok, x1, mk_bs, h1, if_pos (show mk_mc 121 = (121 : Int32) by decide +kernel), F_M_clause_b40]
  simp only [mj_lt]
  rw [if_pos x2n.ok, x3, mk_bs, h2, if_pos (show mk_mc 58 = (58 : Int32) by decide +kernel), F_M_clause_b71]
  simp only [mj_lt]
  rw [if_pos x4n.ok, w14, nw_ck (by omega) (by omega), nw_ck (by omega) (by omega), nI_clamp (by omega), nI_clamp (by omega), w52]
theorem mk_Mpr1 (hN : 1000 ≤ N) (h : mk_lc τ z C r D p L M) (h1 : ¬ mk_ch τ z p = 121) : ∃ M', F_M_clause N M = some M' ∧ mk_lcf C r (mk_sq τ z p) M' := by
  have hr := h.1.2.2.1
  have hv := h.v1
  have hl : mk_ch τ z p < 256 := mk_c0_lt h.1.1.1 (mk_sq τ z p)
  obtain ⟨M1, x1, x2⟩ := h.1.pk hN
  obtain ⟨M2, x3, x4⟩ := x2.bd
  have y := h.runf x4
  have y1 := y.u (c := 48) (k := 3) (v := M2 48 3 + (1 : Int32)) (by omega)
  have y2 := y1.u (c := 48) (k := 3) (v := mj_u M2 48 3 (M2 48 3 + (1 : Int32)) 48 3 + (1 : Int32)) (by omega)
  refine ⟨_, ?_, y2⟩
  rw [F_M_clause, h.1.2.2.2.1, nw_ck (by omega) (by omega), hv]
  simp only [mj_lt]
  rw [if_pos h.1.ok, x1, mk_bs, if_neg (show ¬ mk_mc (mk_ch τ z p) = (121 : Int32) by rw [nl_121, mk_mc_eq hl (by omega) (by omega)]; exact h1), x3, mk_bs, F_M_clause_b40]
  simp only [mj_lt]
  rw [if_neg y1.ok, F_M_clause_b71]
  simp only [mj_lt]
  rw [if_neg y2.ok]
theorem mk_Mpr2 (hN : 1000 ≤ N) (h : mk_lc τ z C r D p L M) (h1 : mk_ch τ z p = 121) (h2 : ¬ mk_ch τ z (mk_sq τ z p + 1) = 58) : ∃ M', F_M_clause N M = some M' ∧ mk_lcf C r (mk_sq τ z (mk_sq τ z p + 1)) M' := by
  have hz := h.1.1.1
  have hr := h.1.2.2.1
  have hv := h.v1
  have hl : mk_ch τ z (mk_sq τ z p + 1) < 256 := mk_c0_lt hz (mk_sq τ z (mk_sq τ z p + 1))
  have s1 := mk_sq_in τ z p
  have hp := h.1.2.1
  have c1 := mk_c0_0 hz (mk_sq τ z p)
  have l1 : mk_sq τ z p < z := by unfold mk_ch at h1; omega
  obtain ⟨M1, x1, x2⟩ := h.1.pk hN
  have x2n := x2.nx l1
  obtain ⟨M2, x3, x4⟩ := x2n.pk hN
  obtain ⟨M3, x5, x6⟩ := x4.bd
  have y := h.runf x6
  have y1 := y.u (c := 48) (k := 3) (v := M3 48 3 + (1 : Int32)) (by omega)
  refine ⟨_, ?_, y1⟩
  rw [F_M_clause, h.1.2.2.2.1, nw_ck (by omega) (by omega), hv]
  simp only [mj_lt]
  rw [if_pos h.1.ok, x1, mk_bs, h1, if_pos (show mk_mc 121 = (121 : Int32) by decide +kernel), F_M_clause_b40]
  simp only [mj_lt]
  rw [if_pos x2n.ok, x3, mk_bs, if_neg (show ¬ mk_mc (mk_ch τ z (mk_sq τ z p + 1)) = (58 : Int32) by rw [nl_58, mk_mc_eq hl (by omega) (by omega)]; exact h2), x5, mk_bs, F_M_clause_b71]
  simp only [mj_lt]
  rw [if_neg y1.ok]
/-- both readers at a clause -/
def mk_gc (N : Nat) (τ : Nat → Nat) (z r : Nat) (D : List mk_C) (p : Nat) : Prop :=
  (∃ p' q, p + 3 ≤ p' ∧ p' ≤ z ∧ mk_wc q ∧ (∀ B M, mk_lx τ z B p (mk_en D) M → ∃ M', F_LawReader_readClause N M = some M' ∧ mk_lx τ z B p' (mk_en (D ++ [q])) M') ∧ (∀ C M, mk_lc τ z C r D p (mk_fl D) M → ∃ M', F_M_clause N M = some M' ∧ mk_lc τ z C r (D ++ [q]) p' (mk_fl (D ++ [q])) M'))
  ∨ (∃ w, w ≤ z ∧ (∀ B M, mk_lx τ z B p (mk_en D) M → ∃ M', F_LawReader_readClause N M = some M' ∧ mk_lxf B w M') ∧ (∀ C M, mk_lc τ z C r D p (mk_fl D) M → ∃ M', F_M_clause N M = some M' ∧ mk_lcf C r w M'))
theorem mk_en1 (D : List mk_C) (q : mk_C) : mk_en (D ++ [q]) = mk_en D ++ mk_ec q := by
  rw [mk_en_app]
  show mk_en D ++ (mk_ec q ++ []) = _
  rw [List.append_nil]
/-- the written one behind y: with what it looks at -/
theorem mk_Xpre (hN : 1000 ≤ N) (h : mk_lx τ z B p l M) (h1 : mk_ch τ z p = 121) (h2 : mk_ch τ z (mk_sq τ z p + 1) = 58) : ∃ M1, mk_lx τ z B (mk_sq τ z (mk_sq τ z (mk_sq τ z p + 1) + 1)) l M1 ∧ F_LawReader_readClause N M = if nI (mk_ch τ z (mk_sq τ z (mk_sq τ z p + 1) + 1)) = (33 : Int32) then (F_LawReader_readClause_b42 N M1) else (if nI (mk_ch τ z (mk_sq τ z (mk_sq τ z p + 1) + 1)) = (40 : Int32) then (F_LawReader_readClause_b42 N M1) else (F_LawReader_readClause_b43 N (1 : Int32) M1)) := by
  obtain ⟨M1, x1, x2⟩ := h.dm hN nl_121 (by omega) h1
  obtain ⟨M2, x3, x4⟩ := x2.dm hN nl_58 (by omega) h2
  obtain ⟨M3, x5, x6⟩ := x4.pk hN
  refine ⟨M3, x6, ?_⟩
  rw [F_LawReader_readClause, x1, mk_bs, x3, mk_bs, x5, mk_bs]
theorem mk_XFcl (hN : 1000 ≤ N) (h : mk_lxf B w M) : ∃ M', F_LawReader_readClause_b43 N (1 : Int32) M = some M' ∧ mk_lxf B w M' := by
  obtain ⟨M3, x5, x6⟩ := h.wr (121 : Int32) (0 : Int32)
  refine ⟨M3, ?_, x6⟩
  rw [F_LawReader_readClause_b43, if_neg (show ¬ (1 : Int32) = 0 by decide +kernel), mk_XFsum hN _ h, mk_bs, F_LawReader_readClause_b53, if_neg (show ¬ (1 : Int32) = 0 by decide +kernel), h.pk, mk_bs, show F_LawReader_isComparison (0 : Int32) M = some (0, M) from mk_noC (c := 0) (by omega) (by omega) M, mk_bs, if_pos rfl, F_LawReader_readClause_b97, x5, mk_bs]
theorem mk_Aclause (hN : 1000 ≤ N) (hz : mk_tp τ z) (hp : p ≤ z) (D : List mk_C) : mk_gc N τ z r D p := by
  have hz2 := hz.1
  have s1 := mk_sq_in τ z p
  have l1 := mk_c0_lt hz (mk_sq τ z p)
  have c1 := mk_c0_0 hz (mk_sq τ z p)
  by_cases h1 : mk_ch τ z p = 121
  rotate_left
  · refine Or.inr ⟨mk_sq τ z p, by omega, fun B M h => ?_, fun C M h => mk_Mpr1 hN h h1⟩
    obtain ⟨M1, x1, x2⟩ := h.dmf hN nl_121 (by omega) h1
    obtain ⟨M2, x3, x4⟩ := mk_XFcl hN x2
    refine ⟨M2, ?_, x4⟩
    rw [F_LawReader_readClause, x1, mk_bs, x2.dm nl_58 (by omega), mk_bs, x2.pk, mk_bs, if_neg (show ¬ (0 : Int32) = (33 : Int32) by decide +kernel), if_neg (show ¬ (0 : Int32) = (40 : Int32) by decide +kernel), x3]
  have e1 : mk_sq τ z p < z := by
    have h1' := h1
    unfold mk_ch at h1'
    omega
  have s2 := mk_sq_in τ z (mk_sq τ z p + 1)
  have l2 := mk_c0_lt hz (mk_sq τ z (mk_sq τ z p + 1))
  have c2 := mk_c0_0 hz (mk_sq τ z (mk_sq τ z p + 1))
  by_cases h2 : mk_ch τ z (mk_sq τ z p + 1) = 58
  rotate_left
  · refine Or.inr ⟨mk_sq τ z (mk_sq τ z p + 1), by omega, fun B M h => ?_, fun C M h => mk_Mpr2 hN h h1 h2⟩
    obtain ⟨M1, x1, x2⟩ := h.dm hN nl_121 (by omega) h1
    obtain ⟨M2, x3, x4⟩ := x2.dmf hN nl_58 (by omega) h2
    obtain ⟨M3, x5, x6⟩ := mk_XFcl hN x4
    refine ⟨M3, ?_, x6⟩
    rw [F_LawReader_readClause, x1, mk_bs, x3, mk_bs, x4.pk, mk_bs, if_neg (show ¬ (0 : Int32) = (33 : Int32) by decide +kernel), if_neg (show ¬ (0 : Int32) = (40 : Int32) by decide +kernel), x5]
  have e2 : mk_sq τ z (mk_sq τ z p + 1) < z := by
    have h2' := h2
    unfold mk_ch at h2'
    omega
  have mX := fun (B M : mj_M) (l : List Nat) (h : mk_lx τ z B p l M) => mk_Xpre hN h h1 h2
  have mM := fun (C M : mj_M) (h : mk_lc τ z C r D p (mk_fl D) M) => mk_Mpre hN h h1 h2
  have hp2 : p + 2 ≤ mk_sq τ z (mk_sq τ z p + 1) + 1 := by omega
  have hz3 : mk_sq τ z (mk_sq τ z p + 1) + 1 ≤ z := by omega
  generalize mk_sq τ z (mk_sq τ z p + 1) + 1 = p2 at *
  have s3 := mk_sq_in τ z p2
  have l3 := mk_c0_lt hz (mk_sq τ z p2)
  have c3 := mk_c0_0 hz (mk_sq τ z p2)
  have hch3 : mk_ch τ z p2 = mk_c0 τ z (mk_sq τ z p2) := rfl
  have sq3 := mk_sq2 τ z p2
  rw [hch3] at mX
  have hch4 : mk_ch τ z (mk_sq τ z p2) = mk_c0 τ z (mk_sq τ z p2) := by unfold mk_ch; rw [sq3]
  have hlen : ∀ B M, mk_lx τ z B p (mk_en D) M → (mk_en D).length ≤ p := fun B M h => h.2.2.2.2.1
  have hD3 : ∀ C M, mk_lc τ z C r D p (mk_fl D) M → 3 * D.length ≤ p ∧ r ≤ 4 := fun C M h => ⟨h.2.2.1, h.1.2.2.1⟩
  have e10 : ¬ (1 : Int32) = 0 := by decide +kernel
  by_cases ht : mk_c0 τ z (mk_sq τ z p2) = 33 ∨ mk_c0 τ z (mk_sq τ z p2) = 40
  · -- a condition that shows itself
    have cX : ∀ B M, mk_lx τ z B p (mk_en D) M → ∃ M1, mk_lx τ z B (mk_sq τ z p2) (mk_en D) M1 ∧ F_LawReader_readClause N M = (F_LawReader_readCondition N (F_LawReader_readUnit N 10) (0 : Int32) (0 : Int32) M1).bind (fun q12 => (F_Tape_demand N (63 : Int32) q12).bind (fun q13 => (F_LawReader_write (63 : Int32) (0 : Int32) q13).bind (fun q14 => (F_LawReader_readSum N 10 (0 : Int32) q14).bind (fun q15 => F_LawReader_readClause_b97 N q15)))) := by
      intro B M h
      obtain ⟨M1, x1, x2⟩ := mX B M _ h
      refine ⟨M1, x1, ?_⟩
      have e : F_LawReader_readClause N M = F_LawReader_readClause_b42 N M1 := by
        rw [x2]
        rcases ht with ht | ht
        · rw [ht, if_pos (show nI 33 = (33 : Int32) from rfl)]
        · rw [ht, if_neg (show ¬ nI 40 = (33 : Int32) by decide +kernel), if_pos (show nI 40 = (40 : Int32) from rfl)]
      rw [e, F_LawReader_readClause_b42, F_LawReader_readClause_b43, if_pos rfl, F_LawReader_readClause_b53, if_pos rfl, F_LawReader_readClause_b70]
    have cM : ∀ C M, mk_lc τ z C r D p (mk_fl D) M → ∃ M1, mk_lc τ z C r D (mk_sq τ z p2) (mk_fl D) M1 ∧ M1 54 (140 * r + D.length) = nI (mk_fl D).length ∧ F_M_clause N M = (F_M_condition N (F_M_unit N 10) M1).bind (fun q24 => F_M_clause_b184 N (nI (140 * r + D.length)) (1 : Int32) q24) := by
      intro C M h
      obtain ⟨M1, x1, x2, x3⟩ := mM C M h
      obtain ⟨M2, y1, y2⟩ := x1.1.pk hN
      obtain ⟨w1, w2⟩ := x1.run y2 (by omega)
      rcases ht with ht | ht
      · refine ⟨M2, w1, by rw [w2 _ _ (by omega) (by omega), x2], ?_⟩
        rw [x3, y1, mk_bs, hch3, ht, if_pos (show mk_mc 33 = (33 : Int32) by decide +kernel), F_M_clause_b123, F_M_clause_b128, if_neg e10]
      · obtain ⟨M3, y3, y4⟩ := w1.1.pk hN
        rw [sq3] at y4
        obtain ⟨w3, w4⟩ := w1.run y4 (Nat.le_refl _)
        refine ⟨M3, w3, by rw [w4 _ _ (by omega) (by omega), w2 _ _ (by omega) (by omega), x2], ?_⟩
        rw [x3, y1, mk_bs, hch3, ht, if_neg (show ¬ mk_mc 40 = (33 : Int32) by decide +kernel), y3, mk_bs, hch4, ht, if_pos (show mk_mc 40 = (40 : Int32) by decide +kernel), F_M_clause_b123, F_M_clause_b128, if_neg e10]
    rcases mk_Acon0 (r := r) hN hz (show mk_sq τ z p2 ≤ z by omega) with ⟨p3, q1, a1, a2, a3, a4, a5, a6⟩ | ⟨w, a1, a2, a3, a4⟩
    · have hq1 : mk_ts [] q1 = some [true] := a4 [] (by show 0 + _ ≤ _; omega)
      rcases mk_Atail (r := r) hN hz a2 with ⟨p4, q2, b1, b2, b3, b4, b5⟩ | ⟨w, b1, b2, b3⟩
      · refine Or.inl ⟨p4, (q1, q2), by omega, b2, ⟨Or.inr hq1, b3⟩, fun B M h => ?_, fun C M h => ?_⟩
        · have hl := hlen B M h
          obtain ⟨M1, x1, x2⟩ := cX B M h
          obtain ⟨M2, x3, x4⟩ := a5 B M1 _ x1
          obtain ⟨M3, x5, x6⟩ := b4 B M2 _ (by rw [List.length_append, List.length_map]; omega) x4
          refine ⟨M3, by rw [x2, x3, mk_bs, x5], ?_⟩
          have hne : ¬ q1 = [] := fun e => by rw [e] at hq1; exact absurd hq1 (by decide)
          rw [mk_en1]
          show mk_lx τ z B p4 (mk_en D ++ ((if q1 = [] then [] else q1.map mk_cd ++ [63]) ++ (q2.map mk_cd ++ [121]))) M3
          rw [if_neg hne]
          simp only [List.append_assoc] at x6 ⊢
          exact x6
        · have hl := hD3 C M h
          obtain ⟨M1, x1, x2, x3⟩ := cM C M h
          obtain ⟨M2, x4, x5⟩ := a6 M1 M1 _ x1.1
          obtain ⟨w1, w2⟩ := x1.run x5 (by omega)
          obtain ⟨M3, x6, x7⟩ := b5 C M2 D q1 w1 (by omega) (by rw [w2 _ _ (by omega) (by omega), x2])
          exact ⟨M3, by rw [x3, x4, mk_bs, x6], x7⟩
      · refine Or.inr ⟨w, b1, fun B M h => ?_, fun C M h => ?_⟩
        · obtain ⟨M1, x1, x2⟩ := cX B M h
          obtain ⟨M2, x3, x4⟩ := a5 B M1 _ x1
          obtain ⟨M3, x5, x6⟩ := b2 B M2 _ x4
          exact ⟨M3, by rw [x2, x3, mk_bs, x5], x6⟩
        · obtain ⟨M1, x1, x2, x3⟩ := cM C M h
          obtain ⟨M2, x4, x5⟩ := a6 M1 M1 _ x1.1
          obtain ⟨w1, w2⟩ := x1.run x5 (by omega)
          obtain ⟨M3, x6, x7⟩ := b3 C M2 D _ w1
          exact ⟨M3, by rw [x3, x4, mk_bs, x6], x7⟩
    · refine Or.inr ⟨w, a1, fun B M h => ?_, fun C M h => ?_⟩
      · obtain ⟨M1, x1, x2⟩ := cX B M h
        obtain ⟨M2, x3, x4⟩ := a3 B M1 _ x1
        obtain ⟨M3, x5, x6⟩ := mk_lxf.tl hN x4
        exact ⟨M3, by rw [x2, x3, mk_bs, x5], x6⟩
      · have hl := hD3 C M h
        obtain ⟨M1, x1, x2, x3⟩ := cM C M h
        obtain ⟨M2, s, x4, x5, x6⟩ := a4 M1 M1 _ x1.1
        obtain ⟨M3, x7, x8⟩ := (x1.runf x5).b184 (N := N) (k := 140 * r + D.length) (by omega) (by omega) (1 : Int32)
        exact ⟨M3, by rw [x3, x4, mk_bs, x7], x8⟩
  · -- a sum first
    have cX : ∀ B M, mk_lx τ z B p (mk_en D) M → ∃ M1, mk_lx τ z B (mk_sq τ z p2) (mk_en D) M1 ∧ F_LawReader_readClause N M = (F_LawReader_readSum N 10 (0 : Int32) M1).bind (fun q7 => F_LawReader_readClause_b53 N (1 : Int32) q7) := by
      intro B M h
      obtain ⟨M1, x1, x2⟩ := mX B M _ h
      refine ⟨M1, x1, ?_⟩
      rw [x2, if_neg (by rw [nl_33, nw_eq (by omega) (by omega)]; omega), if_neg (by rw [nl_40, nw_eq (by omega) (by omega)]; omega), F_LawReader_readClause_b43, if_neg e10]
    have cM : ∀ C M, mk_lc τ z C r D p (mk_fl D) M → ∃ M1, mk_lc τ z C r D (mk_sq τ z p2) (mk_fl D) M1 ∧ M1 54 (140 * r + D.length) = nI (mk_fl D).length ∧ F_M_clause N M = (F_M_sum N 10 M1).bind (fun q19 =>
     if (q19 48 4) = (-1 : Int32) then
     ((F_M_look N q19).bind (fun q21 =>
     (F_M_isSign q21.1 q21.2).bind (fun q22 =>
     if q22.1 = (0) then
     (F_M_clause_b166 N (nI (140 * r + D.length)) q22.2)
     else
     (F_M_clause_b167 N (nI (140 * r + D.length)) (1 : Int32) q22.2))))
     else
     (F_M_clause_b166 N (nI (140 * r + D.length)) q19)) := by
      intro C M h
      obtain ⟨M1, x1, x2, x3⟩ := mM C M h
      obtain ⟨M2, y1, y2⟩ := x1.1.pk hN
      obtain ⟨w1, w2⟩ := x1.run y2 (by omega)
      obtain ⟨M3, y3, y4⟩ := w1.1.pk hN
      rw [sq3] at y4
      obtain ⟨w3, w4⟩ := w1.run y4 (Nat.le_refl _)
      refine ⟨M3, w3, by rw [w4 _ _ (by omega) (by omega), w2 _ _ (by omega) (by omega), x2], ?_⟩
      rw [x3, y1, mk_bs, hch3, if_neg (by rw [nl_33, mk_mc_eq l3 (by omega) (by omega)]; omega), y3, mk_bs, hch4, if_neg (by rw [nl_40, mk_mc_eq l3 (by omega) (by omega)]; omega), F_M_clause_b128, if_pos rfl]
    rcases mk_Asum (r := r) hN hz 10 0 (by omega) (by omega) (mk_sq τ z p2) (by omega) with ⟨p3, q1, a1, a2, a3, a4, a5, a6⟩ | ⟨w, a1, a2, a3, a4⟩
    · have a5' : ∀ B M l, mk_lx τ z B (mk_sq τ z p2) l M → ∃ M', F_LawReader_readSum N 10 (0 : Int32) M = some M' ∧ mk_lx τ z B p3 (l ++ q1.map mk_cd) M' := a5
      have s4 := mk_sq_in τ z p3
      have l4 := mk_c0_lt hz (mk_sq τ z p3)
      have hch5 : mk_ch τ z p3 = mk_c0 τ z (mk_sq τ z p3) := rfl
      by_cases hcm : mk_c0 τ z (mk_sq τ z p3) = 61 ∨ mk_c0 τ z (mk_sq τ z p3) = 60 ∨ mk_c0 τ z (mk_sq τ z p3) = 62
      · obtain ⟨k, hk, hck⟩ : ∃ k, (k = 6 ∨ k = 7 ∨ k = 8) ∧ mk_c0 τ z (mk_sq τ z p3) = mk_sg k := by
          rcases hcm with h | h | h
          · exact ⟨6, by omega, h⟩
          · exact ⟨7, by omega, h⟩
          · exact ⟨8, by omega, h⟩
        have dX : ∀ B M, mk_lx τ z B p (mk_en D) M → ∃ M1, mk_lx τ z B (mk_sq τ z p3) (mk_en D ++ q1.map mk_cd) M1 ∧ F_LawReader_readClause N M = (F_LawReader_readCondition N (F_LawReader_readUnit N 10) (0 : Int32) (1 : Int32) M1).bind (fun q12 => (F_Tape_demand N (63 : Int32) q12).bind (fun q13 => (F_LawReader_write (63 : Int32) (0 : Int32) q13).bind (fun q14 => (F_LawReader_readSum N 10 (0 : Int32) q14).bind (fun q15 => F_LawReader_readClause_b97 N q15)))) := by
          intro B M h
          obtain ⟨M1, x1, x2⟩ := cX B M h
          obtain ⟨M2, x3, x4⟩ := a5' B M1 _ x1
          obtain ⟨M3, x5, x6⟩ := x4.pk hN
          refine ⟨M3, x6, ?_⟩
          rw [x2, x3, mk_bs, F_LawReader_readClause_b53, if_neg e10, x5, mk_bs, hch5, hck, mk_isC k hk, mk_bs, if_neg e10, F_LawReader_readClause_b70]
        have dM : ∀ C M, mk_lc τ z C r D p (mk_fl D) M → ∃ M1, mk_lc τ z C r D (mk_sq τ z p3) (mk_fl D ++ q1) M1 ∧ M1 54 (140 * r + D.length) = nI (mk_fl D).length ∧ F_M_clause N M = ((F_M_compare N M1).bind fun q => (F_M_goOnAnd N (F_M_unit N 10) q).bind fun q => F_M_goOnOr N (F_M_unit N 10) q).bind (fun q28 => F_M_clause_b184 N (nI (140 * r + D.length)) (1 : Int32) q28) := by
          intro C M h
          obtain ⟨M1, x1, x2, x3⟩ := cM C M h
          obtain ⟨M2, x4, x5⟩ := a6 M1 M1 _ x1.1
          obtain ⟨w1, w2⟩ := x1.run x5 (by omega)
          obtain ⟨M3, y1, y2⟩ := w1.1.pk hN
          obtain ⟨w3, w4⟩ := w1.run y2 (by omega)
          refine ⟨M3, w3, by rw [w4 _ _ (by omega) (by omega), w2 _ _ (by omega) (by omega), x2], ?_⟩
          rw [x3, x4, mk_bs, if_pos w1.1.ok, y1, mk_bs, hch5, hck, mk_isS k hk, mk_bs, if_neg e10, F_M_clause_b167, if_neg e10, Option.bind_assoc]
          simp only [Option.bind_assoc]
        rcases mk_Abeg (r := r) hN hz (show mk_sq τ z p3 ≤ z by omega) with ⟨p5, q2, b1, b2, b3, b4, b5, b6⟩ | ⟨w, b1, b2, b3, b4⟩
        · have hq1 : mk_ts [] (q1 ++ q2) = some [true] := by
            rw [mk_ts_app, a4 [] (by show 0 + _ ≤ _; omega), mk_bs]
            exact b4 [] (by show 0 + _ ≤ _; omega)
          rcases mk_Atail (r := r) hN hz b2 with ⟨p6, q3, f1, f2, f3, f4, f5⟩ | ⟨w, f1, f2, f3⟩
          · refine Or.inl ⟨p6, (q1 ++ q2, q3), by omega, f2, ⟨Or.inr hq1, f3⟩, fun B M h => ?_, fun C M h => ?_⟩
            · have hl := hlen B M h
              obtain ⟨M1, x1, x2⟩ := dX B M h
              obtain ⟨M2, x3, x4⟩ := b5 B M1 _ x1
              obtain ⟨M3, x5, x6⟩ := f4 B M2 _ (by rw [List.length_append, List.length_append, List.length_map, List.length_map]; omega) x4
              refine ⟨M3, by rw [x2, x3, mk_bs, x5], ?_⟩
              have hne : ¬ q1 ++ q2 = [] := fun e => by rw [e] at hq1; exact absurd hq1 (by decide)
              rw [mk_en1]
              show mk_lx τ z B p6 (mk_en D ++ ((if q1 ++ q2 = [] then [] else (q1 ++ q2).map mk_cd ++ [63]) ++ (q3.map mk_cd ++ [121]))) M3
              rw [if_neg hne]
              simp only [List.map_append, List.append_assoc] at x6 ⊢
              exact x6
            · have hl := hD3 C M h
              obtain ⟨M1, x1, x2, x3⟩ := dM C M h
              obtain ⟨M2, x4, x5⟩ := b6 M1 M1 _ x1.1
              replace x4 : ((F_M_compare N M1).bind fun q => (F_M_goOnAnd N (F_M_unit N 10) q).bind fun q => F_M_goOnOr N (F_M_unit N 10) q) = some M2 := x4
              obtain ⟨w1, w2⟩ := x1.run x5 (by omega)
              rw [List.append_assoc] at w1
              obtain ⟨M3, x6, x7⟩ := f5 C M2 D (q1 ++ q2) w1 (by omega) (by rw [w2 _ _ (by omega) (by omega), x2])
              exact ⟨M3, by rw [x3, x4, mk_bs, x6], x7⟩
          · refine Or.inr ⟨w, f1, fun B M h => ?_, fun C M h => ?_⟩
            · obtain ⟨M1, x1, x2⟩ := dX B M h
              obtain ⟨M2, x3, x4⟩ := b5 B M1 _ x1
              obtain ⟨M3, x5, x6⟩ := f2 B M2 _ x4
              exact ⟨M3, by rw [x2, x3, mk_bs, x5], x6⟩
            · obtain ⟨M1, x1, x2, x3⟩ := dM C M h
              obtain ⟨M2, x4, x5⟩ := b6 M1 M1 _ x1.1
              replace x4 : ((F_M_compare N M1).bind fun q => (F_M_goOnAnd N (F_M_unit N 10) q).bind fun q => F_M_goOnOr N (F_M_unit N 10) q) = some M2 := x4
              obtain ⟨w1, w2⟩ := x1.run x5 (by omega)
              obtain ⟨M3, x6, x7⟩ := f3 C M2 D _ w1
              exact ⟨M3, by rw [x3, x4, mk_bs, x6], x7⟩
        · refine Or.inr ⟨w, b1, fun B M h => ?_, fun C M h => ?_⟩
          · obtain ⟨M1, x1, x2⟩ := dX B M h
            obtain ⟨M2, x3, x4⟩ := b3 B M1 _ x1
            obtain ⟨M3, x5, x6⟩ := mk_lxf.tl hN x4
            exact ⟨M3, by rw [x2, x3, mk_bs, x5], x6⟩
          · have hl := hD3 C M h
            obtain ⟨M1, x1, x2, x3⟩ := dM C M h
            obtain ⟨M2, s, x4, x5, x6⟩ := b4 M1 M1 _ x1.1
            replace x4 : ((F_M_compare N M1).bind fun q => (F_M_goOnAnd N (F_M_unit N 10) q).bind fun q => F_M_goOnOr N (F_M_unit N 10) q) = some M2 := x4
            obtain ⟨M3, x7, x8⟩ := (x1.runf x5).b184 (N := N) (k := 140 * r + D.length) (by omega) (by omega) (1 : Int32)
            exact ⟨M3, by rw [x3, x4, mk_bs, x7], x8⟩
      · refine Or.inl ⟨mk_sq τ z p3, ([], q1), by omega, by omega, ⟨Or.inl rfl, a4 [] (by show 0 + _ ≤ _; omega)⟩, fun B M h => ?_, fun C M h => ?_⟩
        · have hl := hlen B M h
          obtain ⟨M1, x1, x2⟩ := cX B M h
          obtain ⟨M2, x3, x4⟩ := a5' B M1 _ x1
          obtain ⟨M3, x5, x6⟩ := x4.pk hN
          obtain ⟨M4, x7, x8⟩ := x6.wr (v := 0) (s := 121) (by rw [List.length_append, List.length_map]; omega) (by omega) (by omega)
          have x7' : F_LawReader_write (121 : Int32) (0 : Int32) M3 = some M4 := x7
          refine ⟨M4, ?_, ?_⟩
          · rw [x2, x3, mk_bs, F_LawReader_readClause_b53, if_neg e10, x5, mk_bs, hch5, mk_noC l4 hcm, mk_bs, if_pos rfl, F_LawReader_readClause_b97, x7', mk_bs]
          · rw [mk_en1]
            show mk_lx τ z B _ (mk_en D ++ (q1.map mk_cd ++ [121])) M4
            rw [← List.append_assoc]
            exact x8
        · have hl := hD3 C M h
          obtain ⟨M1, x1, x2, x3⟩ := cM C M h
          obtain ⟨M2, x4, x5⟩ := a6 M1 M1 _ x1.1
          obtain ⟨w1, w2⟩ := x1.run x5 (by omega)
          obtain ⟨M3, y1, y2⟩ := w1.1.pk hN
          obtain ⟨w3, w4⟩ := w1.run y2 (by omega)
          have h54 : M3 54 (140 * r + D.length) = nI (mk_fl D).length := by rw [w4 _ _ (by omega) (by omega), w2 _ _ (by omega) (by omega), x2]
          have w5 := w3.u (c := 55) (v := M3 54 (140 * r + D.length)) (by omega)
          obtain ⟨M4, y3, y4⟩ := mk_lc.end (N := N) hz (q := ([], q1)) w5 (by rw [nw_u9 _ (by omega)]; exact h54) (by rw [mj_u_eq, mj_up_eq]; exact h54) (by omega)
          refine ⟨M4, ?_, y4⟩
          rw [x3, x4, mk_bs, if_pos w1.1.ok, y1, mk_bs, hch5, mk_noS l4 hcm, mk_bs, if_pos rfl, F_M_clause_b166, F_M_clause_b167, if_pos rfl, F_M_clause_b184]
          simp only [mj_lt]
          rw [nw_ck (by omega) (by omega), nw_ck (by omega) (by omega), nI_clamp (by omega), if_pos trivial, y3]
    · refine Or.inr ⟨w, a1, fun B M h => ?_, fun C M h => ?_⟩
      · obtain ⟨M1, x1, x2⟩ := cX B M h
        obtain ⟨M2, x3, x4⟩ := a3 B M1 _ x1
        have x3' : F_LawReader_readSum N 10 (0 : Int32) M1 = some M2 := x3
        obtain ⟨M3, x5, x6⟩ := x4.wr (121 : Int32) (0 : Int32)
        refine ⟨M3, ?_, x6⟩
        rw [x2, x3', mk_bs, F_LawReader_readClause_b53, if_neg e10, x4.pk, mk_bs, show F_LawReader_isComparison (0 : Int32) M2 = some (0, M2) from mk_noC (c := 0) (by omega) (by omega) M2, mk_bs, if_pos rfl, F_LawReader_readClause_b97, x5, mk_bs]
      · have hl := hD3 C M h
        obtain ⟨M1, x1, x2, x3⟩ := cM C M h
        obtain ⟨M2, s, x4, x5, x6⟩ := a4 M1 M1 _ x1.1
        obtain ⟨M3, x7, x8⟩ := (x1.runf x5).b184 (N := N) (k := 140 * r + D.length) (by omega) (by omega) (0 : Int32)
        refine ⟨M3, ?_, x8⟩
        rw [x3, x4, mk_bs, if_neg x5.ok, F_M_clause_b166, F_M_clause_b167, if_pos rfl, x7]
end Clauses
