/-! ===== the pure side: conditions, both readers ===== -/
def mk_tq (σ : List Bool) (b : Bool) (h : Nat) (q : List mk_T) : Prop := ∀ ts, ts.length + h ≤ 32 → mk_ts (σ ++ ts) q = some (b :: ts)
section Cond
variable {N : Nat} {τ : Nat → Nat} {z r d p : Nat}
theorem mk_tq2 {σ : List Bool} {b : Bool} {h : Nat} {q : List mk_T} (hq : ∃ a c, q = a ++ c ∧ mk_tq σ b h a ∧ mk_tl b (h + 1) c) : mk_tq σ b (h + 1) q := by
  obtain ⟨a, c, rfl, h1, h2⟩ := hq
  intro ts hts
  rw [mk_ts_app, h1 ts (by omega), mk_bs]
  exact h2 ts hts
theorem mk_tq_of {b : Bool} {h : Nat} {q : List mk_T} (hq : mk_ty b h q) : mk_tq [] b h q := fun ts hts => hq ts hts
theorem mk_tq_to {b : Bool} {h : Nat} {q : List mk_T} (hq : mk_tq [] b h q) : mk_ty b h q := fun ts hts => hq ts hts
theorem mk_mcn {c : Nat} (hc : 0 < c) : mk_mc c = nI c := by unfold mk_mc; rw [if_neg (by omega)]
theorem mk_mop {C M : mj_M} {L : List mk_T} (d6 : d < 6) (hpz : p < z) (h : mk_lm τ z C r d p L M) : ∃ M', F_M_opens M = some M' ∧ mk_lm τ z C r (d + 1) (p + 1) L M' := by
  have h5 := h.2.2.2.2.2.2.1
  have h3 := h.2.2.2.2.1
  refine ⟨_, ?_, (h.dp (d' := d + 1) (by omega)).at (p' := p + 1) (by omega) hpz⟩
  unfold F_M_opens
  rw [h5, nl_6, if_neg (by rw [nw_eq (by omega) (by omega)]; omega)]
  unfold F_M_opens_b13
  simp only [mj_lt]
  rw [h5, nI_1, mj_u_eq, mj_up_ne _ _ _ (by omega), h3, nI_1]
theorem mk_xgo (d6 : d < 6) (M : mj_M) : F_LawReader_goesDeeper (nI d) M = some (nI 1, mj_u M 2 2 (M 2 2 + (1 : Int32))) := by
  unfold F_LawReader_goesDeeper
  rw [nl_6, if_pos (nI_lt d6 (by omega))]
  rfl
theorem mk_A6 (hz : mk_tp τ z) (hpz : p < z) (d6 : d = 6) {P : List mk_T → Prop} {f g : mj_M → Option mj_M} : mk_gg τ z r P 1 d p (fun M => (F_LawReader_goesDeeper (nI d) M).bind (fun q8 => if q8.1 = (0) then (some q8.2) else f q8.2)) (fun M => (F_M_opens M).bind (fun q8 => if (q8 48 4) = (-1 : Int32) then g q8 else (some q8))) := by
  have hz2 := hz.1
  refine Or.inr ⟨p, by omega, Nat.le_refl _, fun B M l h => ?_, fun C M L h => ?_⟩
  · obtain ⟨M3, x5, x6⟩ := h.fl (v := M 2 2) h.2.2.1 (by omega)
    refine ⟨M3, ?_, x6⟩
    show (F_LawReader_goesDeeper _ _).bind _ = _
    unfold F_LawReader_goesDeeper
    rw [d6, if_neg (show ¬ nI 6 < (6 : Int32) by decide +kernel), x5, mk_bs, mk_bs]
    rfl
  · obtain ⟨M3, x5, x6⟩ := h.bd
    have x7 := (x6.u (k := 5) (v := M3 48 5 + 1) (Or.inr rfl)).u (k := 3) (v := mj_u M3 48 5 (M3 48 5 + 1) 48 3 + 1) (Or.inl rfl)
    refine ⟨_, _, ?_, x7, Nat.le_refl _⟩
    show (F_M_opens _).bind _ = _
    unfold F_M_opens
    rw [h.2.2.2.2.2.2.1, d6, if_pos (show nI 6 = (6 : Int32) from rfl), x5, mk_bs]
    show (some (mj_u (mj_u M3 48 5 (M3 48 5 + 1)) 48 3 (mj_u M3 48 5 (M3 48 5 + 1) 48 3 + 1))).bind _ = _
    rw [mk_bs, if_neg x7.ok]
theorem mk_Apar (hN : 1000 ≤ N) (hz : mk_tp τ z) (hd : d ≤ 6) (hpz : p < z) {cc : Nat} (hcc : 0 < cc ∧ cc < 256) {P : List mk_T → Prop} {f g : mj_M → Option mj_M} (hK : d < 6 → mk_gg τ z r P 1 (d + 1) (p + 1) f g) : mk_gg τ z r P 1 d p (fun M => (F_LawReader_goesDeeper (nI d) M).bind (fun q8 => if q8.1 = (0) then (some q8.2) else ((f q8.2).bind (fun q10 => F_Tape_demand N (nI cc) q10)))) (fun M => (F_M_opens M).bind (fun q8 => if (q8 48 4) = (-1 : Int32) then ((g q8).bind (fun q10 => F_M_closes N (nI cc) q10)) else (some q8))) := by
  have hz2 := hz.1
  by_cases d6 : d < 6
  · rcases hK d6 with ⟨p1, q, a1, a2, a3, a4, a5, a6⟩ | ⟨w, a1, a2, a3, a4⟩
    · have hs1 := mk_sq_in τ z p1
      have hc1 := mk_c0_lt hz (mk_sq τ z p1)
      have hc10 := mk_c0_0 hz (mk_sq τ z p1)
      have hch1 : mk_ch τ z p1 = mk_c0 τ z (mk_sq τ z p1) := rfl
      by_cases c93 : mk_c0 τ z (mk_sq τ z p1) = cc
      · refine Or.inl ⟨mk_sq τ z p1 + 1, q, by omega, by omega, by omega, a4, fun B M l h => ?_, fun C M L h => ?_⟩
        · obtain ⟨M1, x1, x2⟩ := a5 B _ l (h.nx hpz)
          obtain ⟨M2, x3, x4⟩ := x2.pk hN
          refine ⟨_, ?_, x4.nx (by omega)⟩
          show (F_LawReader_goesDeeper _ _).bind _ = _
          rw [mk_xgo d6, mk_bs, if_neg (show ¬ nI 1 = (0 : Int32) by decide +kernel), x1, mk_bs, F_Tape_demand, x3, mk_bs, hch1, c93, if_pos rfl]
          rfl
        · obtain ⟨M0, y1, y2⟩ := mk_mop d6 hpz h
          obtain ⟨M1, x1, x2⟩ := a6 C _ L y2
          obtain ⟨M2, x3, x4⟩ := x2.pk hN
          refine ⟨_, ?_, (x4.at (p' := mk_sq τ z p1 + 1) (by omega) (by omega)).dp (d' := d) hd⟩
          show (F_M_opens _).bind _ = _
          rw [y1, mk_bs, if_pos y2.ok, x1, mk_bs, F_M_closes, if_pos x2.ok, x3, mk_bs, hch1, c93, if_pos (mk_mcn hcc.1)]
          unfold F_M_closes_b20
          simp only [mj_lt]
          rw [x4.2.2.2.2.1, nI_1, mj_u_eq, mj_up_ne _ _ _ (by omega), x4.2.2.2.2.2.2.1, nl_1, pk_sub (by omega), Nat.add_sub_cancel]
      · refine Or.inr ⟨mk_sq τ z p1, by omega, by omega, fun B M l h => ?_, fun C M L h => ?_⟩
        · obtain ⟨M1, x1, x2⟩ := a5 B _ l (h.nx hpz)
          obtain ⟨M2, x3, x4⟩ := x2.pk hN
          obtain ⟨M3, x5, x6⟩ := x4.fl (v := M2 2 2) x4.2.2.1 (by omega)
          refine ⟨M3, ?_, x6⟩
          show (F_LawReader_goesDeeper _ _).bind _ = _
          rw [mk_xgo d6, mk_bs, if_neg (show ¬ nI 1 = (0 : Int32) by decide +kernel), x1, mk_bs, F_Tape_demand, x3, mk_bs, hch1, if_neg (by rw [nw_eq (by omega) (by omega)]; exact c93), x5, mk_bs]
        · obtain ⟨M0, y1, y2⟩ := mk_mop d6 hpz h
          obtain ⟨M1, x1, x2⟩ := a6 C _ L y2
          obtain ⟨M2, x3, x4⟩ := x2.pk hN
          obtain ⟨M3, x5, x6⟩ := x4.bd
          refine ⟨_, _, ?_, (x6.u (k := 3) (v := M3 48 3 + (1 : Int32)) (Or.inl rfl)).u (k := 5) (v := mj_u M3 48 3 (M3 48 3 + (1 : Int32)) 48 5 - (1 : Int32)) (Or.inr rfl), by rw [List.length_append]; omega⟩
          · show (F_M_opens _).bind _ = _
            rw [y1, mk_bs, if_pos y2.ok, x1, mk_bs, F_M_closes, if_pos x2.ok, x3, mk_bs, hch1, if_neg (by rw [mk_mc_eq hc1 (by omega) (by omega)]; exact c93), x5, mk_bs]
            rfl
    · refine Or.inr ⟨w, a1, by omega, fun B M l h => ?_, fun C M L h => ?_⟩
      · obtain ⟨M1, x1, x2⟩ := a3 B _ l (h.nx hpz)
        refine ⟨M1, ?_, x2⟩
        show (F_LawReader_goesDeeper _ _).bind _ = _
        rw [mk_xgo d6, mk_bs, if_neg (show ¬ nI 1 = (0 : Int32) by decide +kernel), x1, mk_bs, F_Tape_demand, x2.pk, mk_bs, if_neg (show ¬ (0 : Int32) = nI cc by rw [nl_0, nw_eq (by omega) (by omega)]; omega), x2.fl, mk_bs]
      · obtain ⟨M0, y1, y2⟩ := mk_mop d6 hpz h
        obtain ⟨M1, s, x1, x2, x3⟩ := a4 C _ L y2
        refine ⟨_, s, ?_, (x2.u (k := 3) (v := M1 48 3 + (1 : Int32)) (Or.inl rfl)).u (k := 5) (v := mj_u M1 48 3 (M1 48 3 + (1 : Int32)) 48 5 - (1 : Int32)) (Or.inr rfl), by omega⟩
        · show (F_M_opens _).bind _ = _
          rw [y1, mk_bs, if_pos y2.ok, x1, mk_bs, F_M_closes, if_neg x2.ok]
          rfl
  · exact mk_A6 (d := d) (f := fun M => (f M).bind (fun q10 => F_Tape_demand N (nI cc) q10)) (g := fun M => (g M).bind (fun q10 => F_M_closes N (nI cc) q10)) hz hpz (by omega)
theorem mk_Anot (hz : mk_tp τ z) (hd : d ≤ 6) (hpz : p < z) {h : Nat} {f g : mj_M → Option mj_M} (hK : d < 6 → mk_gg τ z r (mk_ty true h) 1 (d + 1) (p + 1) f g) : mk_gg τ z r (mk_ty true h) 1 d p (fun M => (F_LawReader_goesDeeper (nI d) M).bind (fun q8 => if q8.1 = (0) then (some q8.2) else ((f q8.2).bind (fun q10 => F_LawReader_write (33 : Int32) (0 : Int32) q10)))) (fun M => (F_M_opens M).bind (fun q8 => if (q8 48 4) = (-1 : Int32) then ((g q8).bind (fun q13 => (F_M_put (9 : Int32) (0 : Int32) q13).bind (fun q14 => some (mj_u q14 48 5 ((q14 48 5) - (1 : Int32)))))) else (some q8))) := by
  have hz2 := hz.1
  by_cases d6 : d < 6
  · rcases hK d6 with ⟨p1, q, a1, a2, a3, a4, a5, a6⟩ | ⟨w, a1, a2, a3, a4⟩
    · refine Or.inl ⟨p1, q ++ [(9, 0)], by omega, a2, by rw [List.length_append, List.length_singleton]; omega, fun ts hts => ?_, fun B M l h => ?_, fun C M L h => ?_⟩
      · rw [mk_ts_app, a4 ts hts, mk_bs]
        rfl
      · have hl := h.2.2.2.2.1
        obtain ⟨M1, x1, x2⟩ := a5 B _ l (h.nx hpz)
        obtain ⟨M2, x3, x4⟩ := x2.wr (v := 0) (s := 33) (by rw [List.length_append, List.length_map]; omega) (by omega) (by omega)
        refine ⟨M2, ?_, by rw [List.map_append, ← List.append_assoc]; exact x4⟩
        show (F_LawReader_goesDeeper _ _).bind _ = _
        rw [mk_xgo d6, mk_bs, if_neg (show ¬ nI 1 = (0 : Int32) by decide +kernel), x1, mk_bs]
        exact x3
      · have hl := h.2.2.2.2.2.2.2.2.1
        obtain ⟨M0, y1, y2⟩ := mk_mop d6 hpz h
        obtain ⟨M1, x1, x2⟩ := a6 C _ L y2
        obtain ⟨M2, x3, x4⟩ := x2.pt (v := 0) (c := 9) (by rw [List.length_append]; omega)
        have x3' : F_M_put (9 : Int32) (0 : Int32) M1 = some M2 := x3
        refine ⟨_, ?_, by rw [← List.append_assoc]; exact x4.dp (d' := d) hd⟩
        show (F_M_opens _).bind _ = _
        rw [y1, mk_bs, if_pos y2.ok, x1, mk_bs, x3', mk_bs, x4.2.2.2.2.2.2.1, nl_1, pk_sub (by omega), Nat.add_sub_cancel]
    · refine Or.inr ⟨w, a1, by omega, fun B M l h => ?_, fun C M L h => ?_⟩
      · obtain ⟨M1, x1, x2⟩ := a3 B _ l (h.nx hpz)
        obtain ⟨M2, x3, x4⟩ := x2.wr (33 : Int32) (0 : Int32)
        refine ⟨M2, ?_, x4⟩
        show (F_LawReader_goesDeeper _ _).bind _ = _
        rw [mk_xgo d6, mk_bs, if_neg (show ¬ nI 1 = (0 : Int32) by decide +kernel), x1, mk_bs, x3]
      · have hl := h.2.2.2.2.2.2.2.2.1
        obtain ⟨M0, y1, y2⟩ := mk_mop d6 hpz h
        obtain ⟨M1, s, x1, x2, x3⟩ := a4 C _ L y2
        obtain ⟨M2, x4, x5⟩ := x2.pt (by omega) (9 : Int32) (0 : Int32)
        refine ⟨_, s + 1, ?_, x5.u (k := 5) (v := M2 48 5 - (1 : Int32)) (Or.inr rfl), by omega⟩
        show (F_M_opens _).bind _ = _
        rw [y1, mk_bs, if_pos y2.ok, x1, mk_bs, x4, mk_bs]
  · exact mk_A6 (d := d) (f := fun M => (f M).bind (fun q10 => F_LawReader_write (33 : Int32) (0 : Int32) q10)) (g := fun M => (g M).bind (fun q13 => (F_M_put (9 : Int32) (0 : Int32) q13).bind (fun q14 => some (mj_u q14 48 5 ((q14 48 5) - (1 : Int32)))))) hz hpz (by omega)
theorem mk_isC (c : Nat) (hc : c = 6 ∨ c = 7 ∨ c = 8) (M : mj_M) : F_LawReader_isComparison (nI (mk_sg c)) M = some (1, M) := by
  unfold F_LawReader_isComparison
  rcases hc with rfl | rfl | rfl
  · rw [if_pos (show nI (mk_sg 6) = (61 : Int32) from rfl)]
  · rw [if_neg (show ¬ nI (mk_sg 7) = (61 : Int32) by decide +kernel), if_pos (show nI (mk_sg 7) = (60 : Int32) from rfl)]
  · rw [if_neg (show ¬ nI (mk_sg 8) = (61 : Int32) by decide +kernel), if_neg (show ¬ nI (mk_sg 8) = (60 : Int32) by decide +kernel), if_pos (show nI (mk_sg 8) = (62 : Int32) from rfl)]
theorem mk_isS (c : Nat) (hc : c = 6 ∨ c = 7 ∨ c = 8) (M : mj_M) : F_M_isSign (mk_mc (mk_sg c)) M = some (1, M) := by
  rw [mk_mcn (mk_sg_lt c).1]
  exact mk_isC c hc M
theorem mk_noC {c : Nat} (hc : c < 256) (h : ¬ (c = 61 ∨ c = 60 ∨ c = 62)) (M : mj_M) : F_LawReader_isComparison (nI c) M = some (0, M) := by
  unfold F_LawReader_isComparison
  rw [nl_61, nl_60, nl_62, if_neg (by rw [nw_eq (by omega) (by omega)]; omega), if_neg (by rw [nw_eq (by omega) (by omega)]; omega), if_neg (by rw [nw_eq (by omega) (by omega)]; omega)]
theorem mk_noS {c : Nat} (hc : c < 256) (h : ¬ (c = 61 ∨ c = 60 ∨ c = 62)) (M : mj_M) : F_M_isSign (mk_mc c) M = some (0, M) := by
  unfold F_M_isSign
  rw [nl_61, nl_60, nl_62, if_neg (by rw [mk_mc_eq hc (by omega) (by omega)]; omega), if_neg (by rw [mk_mc_eq hc (by omega) (by omega)]; omega), if_neg (by rw [mk_mc_eq hc (by omega) (by omega)]; omega)]
theorem mk_Mcmp (c : Nat) (hc : c = 6 ∨ c = 7 ∨ c = 8) (M : mj_M) : F_M_compare_b16 N (mk_mc (mk_sg c)) M = (F_M_sum N 10 (mj_u M 48 3 (M 48 3 + (1 : Int32)))).bind fun M => F_M_put (nI c) (0 : Int32) M := by
  rw [F_M_compare_b16, mk_isS c hc, mk_bs, if_neg (show ¬ (1 : Int32) = 0 by decide +kernel)]
  simp only [mj_lt, F_M_compare_b68, mk_bid]
  rcases hc with rfl | rfl | rfl
  · simp only [if_pos (show mk_mc (mk_sg 6) = (61 : Int32) by decide +kernel)]
    rfl
  · simp only [if_neg (show ¬ mk_mc (mk_sg 7) = (61 : Int32) by decide +kernel), if_pos (show mk_mc (mk_sg 7) = (60 : Int32) by decide +kernel)]
    rfl
  · simp only [if_neg (show ¬ mk_mc (mk_sg 8) = (61 : Int32) by decide +kernel), if_neg (show ¬ mk_mc (mk_sg 8) = (60 : Int32) by decide +kernel)]
    rfl
theorem mk_XF91 (hN : 1000 ≤ N) {K : Int32 → Int32 → mj_M → Option mj_M} (x : Int32) {B M : mj_M} {w : Nat} (h : mk_lxf B w M) : ∃ M', F_LawReader_readUnit_body_b91 N K x M = some M' ∧ mk_lxf B w M' := by
  obtain ⟨M4, x7, x8⟩ := h.wr (0 : Int32) (0 : Int32)
  refine ⟨M4, ?_, x8⟩
  rw [F_LawReader_readUnit_body_b91, h.pk, mk_bs, show F_LawReader_isComparison (0 : Int32) M = some (0, M) from mk_noC (c := 0) (by omega) (by omega) M, mk_bs, if_pos rfl, h.fl, mk_bs, F_LawReader_readUnit_body_b138, mk_XFsum hN x h, mk_bs, x7, mk_bs]
theorem mk_Acmp (hN : 1000 ≤ N) (hz : mk_tp τ z) (hd : d ≤ 6) {K : Int32 → Int32 → mj_M → Option mj_M} (hp : p ≤ z) : mk_gg τ z r (mk_tq [false] true (16 - 2 * d)) 1 d p (F_LawReader_readUnit_body_b91 N K (nI d)) (F_M_compare N) := by
  have hz2 := hz.1
  have hs := mk_sq_in τ z p
  have hc := mk_c0_lt hz (mk_sq τ z p)
  have hc0 := mk_c0_0 hz (mk_sq τ z p)
  have hch : mk_ch τ z p = mk_c0 τ z (mk_sq τ z p) := rfl
  refine (mk_gg.pk hN (fun v M => (F_LawReader_isComparison v M).bind (fun q16 =>
     if q16.1 = (0) then
     ((F_Tape_fail (q16.2 2 2) q16.2).bind (fun q18 =>
     F_LawReader_readUnit_body_b138 N K (nI d) v q18))
     else
     (mj_lt (mj_u q16.2 2 2 ((q16.2 2 2) + (1 : Int32))) (fun M19 =>
     F_LawReader_readUnit_body_b138 N K (nI d) v M19)))) (fun v M => F_M_compare_b16 N v M) ?_).cg (fun B M l h => rfl) (fun C M L h => by rw [F_M_compare, if_pos h.ok])
  rw [hch]
  generalize hpp : mk_sq τ z p = p0 at *
  generalize hcc : mk_c0 τ z p0 = c at *
  have go : ∀ k, (k = 6 ∨ k = 7 ∨ k = 8) → c = mk_sg k → mk_gg τ z r (mk_tq [false] true (16 - 2 * d)) 1 d p0 (fun M => (F_LawReader_isComparison (nI c) M).bind (fun q16 =>
     if q16.1 = (0) then
     ((F_Tape_fail (q16.2 2 2) q16.2).bind (fun q18 =>
     F_LawReader_readUnit_body_b138 N K (nI d) (nI c) q18))
     else
     (mj_lt (mj_u q16.2 2 2 ((q16.2 2 2) + (1 : Int32))) (fun M19 =>
     F_LawReader_readUnit_body_b138 N K (nI d) (nI c) M19)))) (fun M => F_M_compare_b16 N (mk_mc c) M) := by
    intro k hk hck
    have hkl := mk_sg_lt k
    refine ((mk_gg.op (c := k) hz2 (by omega) (mk_Asum hN hz 10 d hd (by omega) (p0 + 1) (by omega))).wk (P' := mk_tq [false] true (16 - 2 * d)) (e' := 1) (fun q hq => ?_) (by omega)).cg (fun B M l h => ?_) (fun C M L h => ?_)
    · obtain ⟨a, rfl, ha⟩ := hq
      intro ts hts
      rw [mk_ts_app]
      show (mk_ts (false :: ts) a).bind _ = _
      rw [ha (false :: ts) (by rw [List.length_cons]; omega), mk_bs]
      rcases hk with rfl | rfl | rfl <;> rfl
    · show (F_LawReader_isComparison (nI c) M).bind _ = _
      rw [hck, mk_isC k hk, mk_bs, if_neg (show ¬ (1 : Int32) = 0 by decide +kernel)]
      simp only [mj_lt, F_LawReader_readUnit_body_b138, mk_bid]
    · rw [hck, mk_Mcmp k hk]
  by_cases e6 : c = 61
  · exact go 6 (by omega) e6
  by_cases e7 : c = 60
  · exact go 7 (by omega) e7
  by_cases e8 : c = 62
  · exact go 8 (by omega) e8
  refine Or.inr ⟨p0, by omega, Nat.le_refl _, fun B M l h => ?_, fun C M L h => ?_⟩
  · obtain ⟨M3, x5, x6⟩ := h.fl (v := M 2 2) h.2.2.1 (by omega)
    obtain ⟨M4, x7, x8⟩ := x6.wr (nI c) (0 : Int32)
    refine ⟨M4, ?_, x8⟩
    show (F_LawReader_isComparison (nI c) M).bind _ = _
    rw [mk_noC hc (by omega), mk_bs, if_pos rfl, x5, mk_bs, F_LawReader_readUnit_body_b138, mk_XFsum hN (nI d) x6, mk_bs, x7, mk_bs]
  · obtain ⟨M3, x5, x6⟩ := h.bd
    refine ⟨M3, _, ?_, x6, Nat.le_refl _⟩
    show F_M_compare_b16 N (mk_mc c) M = _
    rw [F_M_compare_b16, mk_noS hc (by omega), mk_bs, if_pos rfl, x5, mk_bs]
end Cond
