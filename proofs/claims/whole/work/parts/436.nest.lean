/-! ===== the pure side: what nests, both readers ===== -/
section Nest
variable {N : Nat} {τ : Nat → Nat} {z r d p : Nat}
theorem mk_ty1 {h : Nat} {q : mk_T} (hh : 1 ≤ h) (hq : q.1 ≤ 1 ∧ q.2 ≤ 9999 ∧ (q.1 = 1 → q.2 < 6)) : mk_ty false h [q] := by
  intro ts hts
  show (mk_tc ts q).bind (fun t => mk_ts t []) = _
  unfold mk_tc
  rw [if_neg (by omega), if_pos hq.1, if_pos ⟨by omega, hq.2.2⟩, mk_bs]
  rfl
theorem mk_Aatom (hN : 1000 ≤ N) (hz : mk_tp τ z) (hd : d ≤ 6) {K : Int32 → mj_M → Option mj_M} {G : mj_M → Option mj_M} (hK : d < 6 → ∀ p, p ≤ z → mk_gg τ z r (mk_ty false (15 - 2 * (d + 1))) 1 (d + 1) p (K (nI (d + 1))) G) (hp : p ≤ z) : mk_gg τ z r (mk_ty false (13 - 2 * d)) 1 d p (F_LawReader_readAtom N K (nI d)) (F_M_atom N G) := by
  have hz2 := hz.1
  have hs := mk_sq_in τ z p
  have hc := mk_c0_lt hz (mk_sq τ z p)
  have hc0 := mk_c0_0 hz (mk_sq τ z p)
  have hch : mk_ch τ z p = mk_c0 τ z (mk_sq τ z p) := rfl
  refine (mk_gg.pk hN (fun v M => if v < (48 : Int32) then F_LawReader_readAtom_b41 N K (nI d) v M else if (57 : Int32) < v then F_LawReader_readAtom_b41 N K (nI d) v M else ((F_Tape_number N (4 : Int32) (0 : Int32) (9999 : Int32) M).bind fun q4 => (F_LawReader_write (48 : Int32) q4.1 q4.2).bind fun q5 => some q5)) (fun v M => (F_M_isDigit v M).bind fun q2 =>
     if q2.1 = (0) then
     ((F_M_letterOf v q2.2).bind (fun q4 =>
     if q4.1 = (-1 : Int32) then
     (if v = (91 : Int32) then
     ((F_M_opens q4.2).bind (fun q8 =>
     if (q8 48 4) = (-1 : Int32) then
     ((G q8).bind (fun q10 =>
     (F_M_closes N (93 : Int32) q10).bind (fun q11 =>
     some q11)))
     else
     (some q8)))
     else
     ((F_M_bad q4.2).bind (fun q7 =>
     some q7)))
     else
     (mj_lt (mj_u q4.2 48 3 ((q4.2 48 3) + (1 : Int32))) (fun M12 =>
     (F_M_letterOf v M12).bind (fun q13 =>
     (F_M_put (1 : Int32) q13.1 q13.2).bind (fun q14 =>
     some q14))))))
     else
     ((F_M_plainNumber N q2.2).bind (fun q15 =>
     (F_M_put (0 : Int32) q15.1 q15.2).bind (fun q16 =>
     some q16)))) ?_).cg (fun B M l h => rfl) (fun C M L h => rfl)
  rw [hch]
  generalize hpp : mk_sq τ z p = p0 at *
  generalize hcc : mk_c0 τ z p0 = c at *
  have hsq : mk_sq τ z p0 = p0 := by rw [← hpp]; exact mk_sq2 τ z p
  by_cases e : mk_dg2 c = true
  · have hd2 := mk_dg2_t.mp e
    have hx : ∀ B M l, mk_lx τ z B p0 l M → (if nI c < (48 : Int32) then F_LawReader_readAtom_b41 N K (nI d) (nI c) M else if (57 : Int32) < nI c then F_LawReader_readAtom_b41 N K (nI d) (nI c) M else ((F_Tape_number N (4 : Int32) (0 : Int32) (9999 : Int32) M).bind fun q4 => (F_LawReader_write (48 : Int32) q4.1 q4.2).bind fun q5 => some q5)) = ((F_Tape_number_b10 N N (4 : Int32) (0 : Int32) (9999 : Int32) (nI 0) (nI 0) M).bind fun q4 => (F_LawReader_write (48 : Int32) q4.1 q4.2).bind fun q5 => some q5) := by
      intro B M l h
      have e1 := mk_Xskip h.1 hN h.2.1
      rw [mj_us_ h.2.2.1, hsq, mj_us_ h.2.2.1] at e1
      rw [if_neg (show ¬ nI c < (48 : Int32) by rw [nl_48, nw_lt (by omega) (by omega)]; omega), if_neg (show ¬ (57 : Int32) < nI c by rw [nl_57, nw_lt (by omega) (by omega)]; omega), F_Tape_number, e1, mk_bs]
      rfl
    have hm : ∀ M, F_M_isDigit (mk_mc c) M = some (nI 1, M) := fun M => by rw [mk_Mdigit hc, e]; rfl
    rcases mk_num4 (N := N) (r := r) (d := d) hz 4 0 0 p0 N N rfl (by omega) (fun _ => by rw [hcc]; exact e) (by omega) (by omega) (by omega) with ⟨v', p', a1, a2, a3, a4, a5, a6⟩ | ⟨a1, a2, a3⟩
    · have a4 := a4 rfl
      refine Or.inl ⟨p', [(0, v')], by omega, a3, by rw [List.length_singleton]; omega, mk_ty1 (by omega) ⟨Nat.zero_le _, by show v' ≤ 9999; omega, fun h => absurd (show (0 : Nat) = 1 from h) (by decide)⟩, fun B M l h => ?_, fun C M L h => ?_⟩
      · have hl := h.2.2.2.2.1
        obtain ⟨M1, x1, x2⟩ := a5 B M l h
        obtain ⟨M2, x3, x4⟩ := x2.wr (v := v') (s := 48) (by omega) a1 (by omega)
        refine ⟨M2, ?_, x4⟩
        show (if nI c < (48 : Int32) then _ else _) = _
        rw [hx B M l h, x1, mk_bs, nl_48, x3, mk_bs]
      · have hl := h.2.2.2.2.2.2.2.2.1
        obtain ⟨M1, x1, x2⟩ := a6 C M L h
        obtain ⟨M2, x3, x4⟩ := x2.pt (v := v') (c := 0) (by omega)
        refine ⟨M2, ?_, x4⟩
        show (F_M_isDigit _ _).bind _ = _
        rw [hm, mk_bs, if_neg (show ¬ nI 1 = (0 : Int32) by decide +kernel), F_M_plainNumber, nl_0, x1, mk_bs, x3, mk_bs]
    · refine Or.inr ⟨p0 + 4, a1, by omega, fun B M l h => ?_, fun C M L h => ?_⟩
      · obtain ⟨M1, y, x1, x2⟩ := a2 B M l h
        obtain ⟨M2, x3, x4⟩ := x2.wr (48 : Int32) y
        refine ⟨M2, ?_, x4⟩
        show (if nI c < (48 : Int32) then _ else _) = _
        rw [hx B M l h, x1, mk_bs, x3, mk_bs]
      · have hl := h.2.2.2.2.2.2.2.2.1
        obtain ⟨M1, y, x1, x2⟩ := a3 C M L h
        obtain ⟨M2, x3, x4⟩ := x2.pt (by omega) (0 : Int32) y
        refine ⟨M2, L.length + 1, ?_, x4, by omega⟩
        show (F_M_isDigit _ _).bind _ = _
        rw [hm, mk_bs, if_neg (show ¬ nI 1 = (0 : Int32) by decide +kernel), F_M_plainNumber, nl_0, x1, mk_bs, ← nl_0, x3, mk_bs]
  · have e : mk_dg2 c = false := by cases h : mk_dg2 c with | true => exact absurd h e | false => rfl
    have hd2 := mk_dg2_f.mp e
    have hm : ∀ M, F_M_isDigit (mk_mc c) M = some (nI 0, M) := fun M => by rw [mk_Mdigit hc, e]; rfl
    refine mk_gg.cg (f := F_LawReader_readAtom_b41 N K (nI d) (nI c)) (g := fun M => (F_M_letterOf (mk_mc c) M).bind (fun q4 =>
     if q4.1 = (-1 : Int32) then
     (if (mk_mc c) = (91 : Int32) then
     ((F_M_opens q4.2).bind (fun q8 =>
     if (q8 48 4) = (-1 : Int32) then
     ((G q8).bind (fun q10 =>
     (F_M_closes N (93 : Int32) q10).bind (fun q11 =>
     some q11)))
     else
     (some q8)))
     else
     ((F_M_bad q4.2).bind (fun q7 =>
     some q7)))
     else
     (mj_lt (mj_u q4.2 48 3 ((q4.2 48 3) + (1 : Int32))) (fun M12 =>
     (F_M_letterOf (mk_mc c) M12).bind (fun q13 =>
     (F_M_put (1 : Int32) q13.1 q13.2).bind (fun q14 =>
     some q14)))))) ?_ (fun B M l h => ?_) (fun C M L h => ?_)
    rotate_left
    · show (if nI c < (48 : Int32) then _ else _) = _
      rw [nl_48, nl_57]
      simp (disch := omega) only [nw_lt]
      by_cases q : c < 48
      · rw [if_pos q]
      · rw [if_neg q, if_pos (by omega)]
    · show (F_M_isDigit _ _).bind _ = _
      rw [hm, mk_bs, if_pos (show nI 0 = (0 : Int32) from rfl)]
    have hl6 := mk_lo6 c
    by_cases f : mk_lo c < 6
    · have hne : c ≠ 91 := fun h => by subst h; exact absurd f (by decide)
      have hpz : p0 < z := by
        have : c ≠ 0 := fun h => by subst h; exact absurd f (by decide)
        omega
      refine Or.inl ⟨p0 + 1, [(1, mk_lo c)], by omega, hpz, by rw [List.length_singleton]; omega, mk_ty1 (by omega) ⟨Nat.le_refl _, by show mk_lo c ≤ 9999; omega, fun _ => f⟩, fun B M l h => ?_, fun C M L h => ?_⟩
      · have hl := h.2.2.2.2.1
        obtain ⟨M2, x3, x4⟩ := (h.nx hpz).wr (v := mk_lo c) (s := 108) (by omega) (by omega) (by omega)
        refine ⟨M2, ?_, x4⟩
        rw [F_LawReader_readAtom_b41, if_neg (by rw [nl_91, nw_eq (by omega) (by omega)]; exact hne), mk_Xlet hN hc, if_pos f, nl_108, x3, mk_bs]
      · have hl := h.2.2.2.2.2.2.2.2.1
        obtain ⟨M2, x3, x4⟩ := (h.nx hpz).pt (v := mk_lo c) (c := 1) (by omega)
        refine ⟨M2, ?_, x4⟩
        show (F_M_letterOf _ _).bind _ = _
        rw [mk_Mlet hc, mk_bs, if_pos f, if_neg (mk_nm1 (by omega))]
        show (F_M_letterOf _ _).bind _ = _
        rw [mk_Mlet hc, mk_bs, if_pos f]
        have x3' : F_M_put (1 : Int32) (nI (mk_lo c)) (mj_u M 48 3 (M 48 3 + (1 : Int32))) = some M2 := x3
        show (F_M_put (1 : Int32) (nI (mk_lo c)) (mj_u M 48 3 (M 48 3 + (1 : Int32)))).bind _ = _
        rw [x3', mk_bs]
    · have hmm : ∀ M, F_M_letterOf (mk_mc c) M = some (-nI 1, M) := fun M => by rw [mk_Mlet hc, if_neg f]
      by_cases c91 : c = 91
      · have hpz : p0 < z := by omega
        refine mk_gg.cg (f := fun M => (F_LawReader_goesDeeper (nI d) M).bind (fun q8 => if q8.1 = (0) then (some q8.2) else ((K (nI (d + 1)) q8.2).bind (fun q10 => F_Tape_demand N (93 : Int32) q10)))) (g := fun M => (F_M_opens M).bind (fun q8 => if (q8 48 4) = (-1 : Int32) then ((G q8).bind (fun q10 => F_M_closes N (93 : Int32) q10)) else (some q8))) ?_ (fun B M l h => ?_) (fun C M L h => ?_)
        rotate_left
        · rw [F_LawReader_readAtom_b41, c91, if_pos (show nI 91 = (91 : Int32) from rfl), nI_1]
          simp only [mk_bid]
        · show (F_M_letterOf _ _).bind _ = _
          rw [hmm, mk_bs, if_pos (show -nI 1 = (-1 : Int32) from rfl), c91, if_pos (show mk_mc 91 = (91 : Int32) by decide +kernel)]
          simp only [mk_bid]
        by_cases d6 : d < 6
        · have hx : ∀ M, F_LawReader_goesDeeper (nI d) M = some (nI 1, mj_u M 2 2 (M 2 2 + (1 : Int32))) := fun M => by
            unfold F_LawReader_goesDeeper
            rw [nl_6, if_pos (nI_lt d6 (by omega))]
            rfl
          have hmo : ∀ C M L, mk_lm τ z C r d p0 L M → ∃ M', F_M_opens M = some M' ∧ mk_lm τ z C r (d + 1) (p0 + 1) L M' := by
            intro C M L h
            have h5 := h.2.2.2.2.2.2.1
            have h3 := h.2.2.2.2.1
            refine ⟨_, ?_, (h.dp (d' := d + 1) (by omega)).at (p' := p0 + 1) (by omega) hpz⟩
            unfold F_M_opens
            rw [h5, nl_6, if_neg (by rw [nw_eq (by omega) (by omega)]; omega)]
            unfold F_M_opens_b13
            simp only [mj_lt]
            rw [h5, nI_1, mj_u_eq, mj_up_ne _ _ _ (by omega), h3, nI_1]
          rcases hK d6 (p0 + 1) hpz with ⟨p1, q, a1, a2, a3, a4, a5, a6⟩ | ⟨w, a1, a2, a3, a4⟩
          · have hs1 := mk_sq_in τ z p1
            have hc1 := mk_c0_lt hz (mk_sq τ z p1)
            have hc10 := mk_c0_0 hz (mk_sq τ z p1)
            have hch1 : mk_ch τ z p1 = mk_c0 τ z (mk_sq τ z p1) := rfl
            by_cases c93 : mk_c0 τ z (mk_sq τ z p1) = 93
            · refine Or.inl ⟨mk_sq τ z p1 + 1, q, by omega, by omega, by omega, fun ts ht => a4 ts (by omega), fun B M l h => ?_, fun C M L h => ?_⟩
              · obtain ⟨M1, x1, x2⟩ := a5 B _ l (h.nx hpz)
                obtain ⟨M2, x3, x4⟩ := x2.pk hN
                refine ⟨_, ?_, x4.nx (by omega)⟩
                show (F_LawReader_goesDeeper _ _).bind _ = _
                rw [hx, mk_bs, if_neg (show ¬ nI 1 = (0 : Int32) by decide +kernel), x1, mk_bs, F_Tape_demand, x3, mk_bs, hch1, c93, if_pos (show nI 93 = (93 : Int32) from rfl)]
                rfl
              · obtain ⟨M0, y1, y2⟩ := hmo C M L h
                obtain ⟨M1, x1, x2⟩ := a6 C _ L y2
                obtain ⟨M2, x3, x4⟩ := x2.pk hN
                refine ⟨_, ?_, (x4.at (p' := mk_sq τ z p1 + 1) (by omega) (by omega)).dp (d' := d) hd⟩
                show (F_M_opens _).bind _ = _
                rw [y1, mk_bs, if_pos y2.ok, x1, mk_bs, F_M_closes, if_pos x2.ok, x3, mk_bs, hch1, c93, if_pos (show mk_mc 93 = (93 : Int32) by decide +kernel)]
                unfold F_M_closes_b20
                simp only [mj_lt]
                rw [x4.2.2.2.2.1, nI_1, mj_u_eq, mj_up_ne _ _ _ (by omega), x4.2.2.2.2.2.2.1, nl_1, pk_sub (by omega), Nat.add_sub_cancel]
            · refine Or.inr ⟨mk_sq τ z p1, by omega, by omega, fun B M l h => ?_, fun C M L h => ?_⟩
              · obtain ⟨M1, x1, x2⟩ := a5 B _ l (h.nx hpz)
                obtain ⟨M2, x3, x4⟩ := x2.pk hN
                obtain ⟨M3, x5, x6⟩ := x4.fl (v := M2 2 2) x4.2.2.1 (by omega)
                refine ⟨M3, ?_, x6⟩
                show (F_LawReader_goesDeeper _ _).bind _ = _
                rw [hx, mk_bs, if_neg (show ¬ nI 1 = (0 : Int32) by decide +kernel), x1, mk_bs, F_Tape_demand, x3, mk_bs, hch1, if_neg (by rw [nl_93, nw_eq (by omega) (by omega)]; exact c93), x5, mk_bs]
              · obtain ⟨M0, y1, y2⟩ := hmo C M L h
                obtain ⟨M1, x1, x2⟩ := a6 C _ L y2
                obtain ⟨M2, x3, x4⟩ := x2.pk hN
                obtain ⟨M3, x5, x6⟩ := x4.bd
                refine ⟨_, _, ?_, (x6.u (k := 3) (v := M3 48 3 + (1 : Int32)) (Or.inl rfl)).u (k := 5) (v := mj_u M3 48 3 (M3 48 3 + (1 : Int32)) 48 5 - (1 : Int32)) (Or.inr rfl), by rw [List.length_append]; omega⟩
                · show (F_M_opens _).bind _ = _
                  rw [y1, mk_bs, if_pos y2.ok, x1, mk_bs, F_M_closes, if_pos x2.ok, x3, mk_bs, hch1, if_neg (by rw [nl_93, mk_mc_eq hc1 (by omega) (by omega)]; exact c93), x5, mk_bs]
                  rfl
          · refine Or.inr ⟨w, a1, by omega, fun B M l h => ?_, fun C M L h => ?_⟩
            · obtain ⟨M1, x1, x2⟩ := a3 B _ l (h.nx hpz)
              refine ⟨M1, ?_, x2⟩
              show (F_LawReader_goesDeeper _ _).bind _ = _
              rw [hx, mk_bs, if_neg (show ¬ nI 1 = (0 : Int32) by decide +kernel), x1, mk_bs, F_Tape_demand, x2.pk, mk_bs, if_neg (show ¬ (0 : Int32) = (93 : Int32) by decide +kernel), x2.fl, mk_bs]
            · obtain ⟨M0, y1, y2⟩ := hmo C M L h
              obtain ⟨M1, s, x1, x2, x3⟩ := a4 C _ L y2
              refine ⟨_, s, ?_, (x2.u (k := 3) (v := M1 48 3 + (1 : Int32)) (Or.inl rfl)).u (k := 5) (v := mj_u M1 48 3 (M1 48 3 + (1 : Int32)) 48 5 - (1 : Int32)) (Or.inr rfl), by omega⟩
              · show (F_M_opens _).bind _ = _
                rw [y1, mk_bs, if_pos y2.ok, x1, mk_bs, F_M_closes, if_neg x2.ok]
                rfl
        · have d6 : d = 6 := by omega
          refine Or.inr ⟨p0, by omega, Nat.le_refl _, fun B M l h => ?_, fun C M L h => ?_⟩
          · obtain ⟨M3, x5, x6⟩ := h.fl (v := M 2 2) h.2.2.1 (by omega)
            refine ⟨M3, ?_, x6⟩
            show (F_LawReader_goesDeeper _ _).bind _ = _
            unfold F_LawReader_goesDeeper
            rw [d6, if_neg (show ¬ nI 6 < (6 : Int32) by decide +kernel), x5, mk_bs, mk_bs]
            rfl
          · obtain ⟨M3, x5, x6⟩ := h.bd
            have x7 := (x6.u (k := 5) (v := M3 48 5 + 1) (Or.inr rfl)).u (k := 3) (v := mj_u M3 48 5 (M3 48 5 + 1) 48 3 + 1) (Or.inl rfl)
            refine ⟨_, _, ?_, x7, Nat.le_refl _⟩
            show (F_M_opens _).bind _ = _
            unfold F_M_opens
            rw [h.2.2.2.2.2.2.1, d6, if_pos (show nI 6 = (6 : Int32) from rfl), x5, mk_bs]
            show (some (mj_u (mj_u M3 48 5 (M3 48 5 + 1)) 48 3 (mj_u M3 48 5 (M3 48 5 + 1) 48 3 + 1))).bind _ = _
            rw [mk_bs, if_neg x7.ok]
      · refine Or.inr ⟨p0, by omega, Nat.le_refl _, fun B M l h => ?_, fun C M L h => ?_⟩
        · obtain ⟨M3, x5, x6⟩ := h.fl (v := M 2 2) h.2.2.1 (by omega)
          refine ⟨M3, ?_, x6⟩
          rw [F_LawReader_readAtom_b41, if_neg (by rw [nl_91, nw_eq (by omega) (by omega)]; exact c91), mk_Xlet hN hc, if_neg f, x5, mk_bs]
        · obtain ⟨M3, x5, x6⟩ := h.bd
          refine ⟨M3, _, ?_, x6, Nat.le_refl _⟩
          show (F_M_letterOf _ _).bind _ = _
          rw [hmm, mk_bs, if_pos (show -nI 1 = (-1 : Int32) from rfl), if_neg (by rw [nl_91, mk_mc_eq hc (by omega) (by omega)]; exact c91), x5, mk_bs]
end Nest
