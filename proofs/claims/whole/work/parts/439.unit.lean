/-! ===== the pure side: units, what joins them, both readers ===== -/
section Unit_
variable {N : Nat} {τ : Nat → Nat} {z r d p : Nat}
theorem mk_Atru (hN : 1000 ≤ N) (hz : mk_tp τ z) {K : Int32 → Int32 → mj_M → Option mj_M} {G : mj_M → Option mj_M} {h : Nat} (hU : ∀ p, p ≤ z → mk_gg τ z r (mk_ty true h) 1 d p (K (nI d) (0 : Int32)) G) {σ : List Bool} {f g : mj_M → Option mj_M} (h0 : mk_gg τ z r (mk_tq σ true h) 1 d p f g) : mk_gg τ z r (mk_tq σ true (h + 1)) 1 d p (fun M => (f M).bind (F_LawReader_readTruth_b8 N K N (nI d) (0 : Int32))) (fun M => (g M).bind (F_M_goOnAnd N G)) := by
  have hz2 := hz.1
  have L := mk_gg.lp (N := N) (d := d) (c1 := 10) (c2 := 10) hN hz (fun ts => rfl) (fun ts => rfl) hU
    (fl := fun n i M => F_LawReader_readTruth_b8 N K n (nI d) i M) (gl := fun n M => F_M_goOnAnd_b0 N G n M)
    (fun n i M => by
      show F_LawReader_readTruth_b8 N K (n + 1) (nI d) i M = _
      rw [F_LawReader_readTruth_b8]
      by_cases h240 : (240 : Int32) ≤ i
      · rw [if_pos h240, if_pos h240]
      · rw [if_neg h240, if_neg h240, F_Tape_takes, Option.bind_assoc]
        congr 1
        funext q
        by_cases h1 : q.1 = (38 : Int32)
        · rw [if_pos h1, if_pos (show q.1 = nI (mk_sg 10) from h1), h1]
          show (some ((1 : Int32), mj_u q.2 2 2 (q.2 2 2 + (1 : Int32)))).bind _ = _
          rw [mk_bs, if_neg (show ¬ (1 : Int32) = 0 by decide +kernel)]
        · rw [if_neg h1, if_neg (show ¬ q.1 = nI (mk_sg 10) from h1), if_neg (show ¬ q.1 = nI (mk_sg 10) from h1), mk_bs, if_pos rfl])
    (fun n M h => by
      show F_M_goOnAnd_b0 N G (n + 1) M = _
      rw [F_M_goOnAnd_b0, if_pos h]
      congr 1
      funext q
      by_cases h1 : q.1 = (38 : Int32)
      · rw [if_pos h1, if_pos (show q.1 = nI (mk_sg 10) from h1)]
        rfl
      · rw [if_neg h1, if_neg (show ¬ q.1 = nI (mk_sg 10) from h1), if_neg (show ¬ q.1 = nI (mk_sg 10) from h1)])
    (fun n M h => by
      show F_M_goOnAnd_b0 N G (n + 1) M = _
      rw [F_M_goOnAnd_b0, if_neg h])
  refine ((h0.sq (f2 := F_LawReader_readTruth_b8 N K N (nI d) (0 : Int32)) (g2 := F_M_goOnAnd N G) (fun p' h1 h2 => L (z - p' + 1) p' 0 N N (by omega) (by omega) h2 (by omega) (by omega)) (fun B w M h => ?_) (fun C w s M h => ?_)).wk (fun q hq => mk_tq2 hq) (Nat.le_refl _))
  · obtain ⟨n, hn⟩ : ∃ k, N = k + 1 := ⟨N - 1, by omega⟩
    refine ⟨M, ?_, h⟩
    have e : ∀ n, F_LawReader_readTruth_b8 N K (n + 1) (nI d) (0 : Int32) M = some M := fun n => by
      rw [F_LawReader_readTruth_b8, if_neg (show ¬ (240 : Int32) ≤ 0 by decide +kernel), F_Tape_takes, h.pk, mk_bs, if_neg (show ¬ (0 : Int32) = (38 : Int32) by decide +kernel), mk_bs, if_pos rfl]
    have e := e n
    rw [← hn] at e
    exact e
  · obtain ⟨n, hn⟩ : ∃ k, N = k + 1 := ⟨N - 1, by omega⟩
    refine ⟨M, ?_, h⟩
    have e : ∀ n, F_M_goOnAnd_b0 N G (n + 1) M = some M := fun n => by
      rw [F_M_goOnAnd_b0, if_neg h.ok]
    have e := e n
    rw [← hn] at e
    exact e
theorem mk_Acnd (hN : 1000 ≤ N) (hz : mk_tp τ z) {K : Int32 → Int32 → mj_M → Option mj_M} {G : mj_M → Option mj_M} {h : Nat} (hU : ∀ p, p ≤ z → mk_gg τ z r (mk_ty true h) 1 d p (K (nI d) (0 : Int32)) G) {σ : List Bool} {f g : mj_M → Option mj_M} (h0 : mk_gg τ z r (mk_tq σ true (h + 1)) 1 d p f g) : mk_gg τ z r (mk_tq σ true (h + 2)) 1 d p (fun M => (f M).bind (F_LawReader_readCondition_b8 N K N (nI d) (0 : Int32))) (fun M => (g M).bind (F_M_goOnOr N G)) := by
  have hz2 := hz.1
  have hT : ∀ p, p ≤ z → mk_gg τ z r (mk_ty true (h + 1)) 1 d p (F_LawReader_readTruth N K (nI d) (0 : Int32)) (fun M => (G M).bind (F_M_goOnAnd N G)) := fun p hp =>
    ((mk_Atru hN hz hU ((hU p hp).wk (P' := mk_tq [] true h) (e' := 1) (fun q hq => mk_tq_of hq) (Nat.le_refl _))).wk (P' := mk_ty true (h + 1)) (e' := 1) (fun q hq => mk_tq_to hq) (Nat.le_refl _)).cg (fun B M l h => rfl) (fun C M L h => rfl)
  have L := mk_gg.lp (N := N) (d := d) (c1 := 11) (c2 := 11) hN hz (fun ts => rfl) (fun ts => rfl) hT
    (fl := fun n i M => F_LawReader_readCondition_b8 N K n (nI d) i M) (gl := fun n M => F_M_goOnOr_b0 N G n M)
    (fun n i M => by
      show F_LawReader_readCondition_b8 N K (n + 1) (nI d) i M = _
      rw [F_LawReader_readCondition_b8]
      by_cases h240 : (240 : Int32) ≤ i
      · rw [if_pos h240, if_pos h240]
      · rw [if_neg h240, if_neg h240, F_Tape_takes, Option.bind_assoc]
        congr 1
        funext q
        by_cases h1 : q.1 = (124 : Int32)
        · rw [if_pos h1, if_pos (show q.1 = nI (mk_sg 11) from h1), h1]
          show (some ((1 : Int32), mj_u q.2 2 2 (q.2 2 2 + (1 : Int32)))).bind _ = _
          rw [mk_bs, if_neg (show ¬ (1 : Int32) = 0 by decide +kernel)]
        · rw [if_neg h1, if_neg (show ¬ q.1 = nI (mk_sg 11) from h1), if_neg (show ¬ q.1 = nI (mk_sg 11) from h1), mk_bs, if_pos rfl])
    (fun n M h => by
      show F_M_goOnOr_b0 N G (n + 1) M = _
      rw [F_M_goOnOr_b0, if_pos h]
      congr 1
      funext q
      by_cases h1 : q.1 = (124 : Int32)
      · rw [if_pos h1, if_pos (show q.1 = nI (mk_sg 11) from h1), Option.bind_assoc]
        rfl
      · rw [if_neg h1, if_neg (show ¬ q.1 = nI (mk_sg 11) from h1), if_neg (show ¬ q.1 = nI (mk_sg 11) from h1)])
    (fun n M h => by
      show F_M_goOnOr_b0 N G (n + 1) M = _
      rw [F_M_goOnOr_b0, if_neg h])
  refine ((h0.sq (f2 := F_LawReader_readCondition_b8 N K N (nI d) (0 : Int32)) (g2 := F_M_goOnOr N G) (fun p' h1 h2 => L (z - p' + 1) p' 0 N N (by omega) (by omega) h2 (by omega) (by omega)) (fun B w M h => ?_) (fun C w s M h => ?_)).wk (fun q hq => mk_tq2 hq) (Nat.le_refl _))
  · obtain ⟨n, hn⟩ : ∃ k, N = k + 1 := ⟨N - 1, by omega⟩
    refine ⟨M, ?_, h⟩
    have e : ∀ n, F_LawReader_readCondition_b8 N K (n + 1) (nI d) (0 : Int32) M = some M := fun n => by
      rw [F_LawReader_readCondition_b8, if_neg (show ¬ (240 : Int32) ≤ 0 by decide +kernel), F_Tape_takes, h.pk, mk_bs, if_neg (show ¬ (0 : Int32) = (124 : Int32) by decide +kernel), mk_bs, if_pos rfl]
    have e := e n
    rw [← hn] at e
    exact e
  · obtain ⟨n, hn⟩ : ∃ k, N = k + 1 := ⟨N - 1, by omega⟩
    refine ⟨M, ?_, h⟩
    have e : ∀ n, F_M_goOnOr_b0 N G (n + 1) M = some M := fun n => by
      rw [F_M_goOnOr_b0, if_neg h.ok]
    have e := e n
    rw [← hn] at e
    exact e
theorem mk_Acond (hN : 1000 ≤ N) (hz : mk_tp τ z) {K : Int32 → Int32 → mj_M → Option mj_M} {G : mj_M → Option mj_M} {h : Nat} (hU : ∀ p, p ≤ z → mk_gg τ z r (mk_ty true h) 1 d p (K (nI d) (0 : Int32)) G) (hp : p ≤ z) : mk_gg τ z r (mk_ty true (h + 2)) 1 d p (F_LawReader_readCondition N K (nI d) (0 : Int32)) (F_M_condition N G) := by
  refine ((mk_Acnd hN hz hU (mk_Atru hN hz hU ((hU p hp).wk (P' := mk_tq [] true h) (e' := 1) (fun q hq => mk_tq_of hq) (Nat.le_refl _)))).wk (P' := mk_ty true (h + 2)) (e' := 1) (fun q hq => mk_tq_to hq) (Nat.le_refl _)).cg (fun B M l h => rfl) (fun C M L h => ?_)
  unfold F_M_condition
  simp only [mk_bid, Option.bind_assoc]
theorem mk_Aunit0 (hN : 1000 ≤ N) (hz : mk_tp τ z) (hd : d ≤ 6) {K : Int32 → Int32 → mj_M → Option mj_M} {G : mj_M → Option mj_M} (hK : d < 6 → ∀ p, p ≤ z → mk_gg τ z r (mk_ty true (16 - 2 * (d + 1))) 1 (d + 1) p (K (nI (d + 1)) (0 : Int32)) G) (hp : p ≤ z) : mk_gg τ z r (mk_ty true (16 - 2 * d)) 1 d p (F_LawReader_readUnit_body N K (nI d) (0 : Int32)) (F_M_unit_body N G) := by
  have hz2 := hz.1
  have hs := mk_sq_in τ z p
  have hc := mk_c0_lt hz (mk_sq τ z p)
  have hc0 := mk_c0_0 hz (mk_sq τ z p)
  have hch : mk_ch τ z p = mk_c0 τ z (mk_sq τ z p) := rfl
  refine (mk_gg.pk hN (fun v M => F_LawReader_readUnit_body_b15 N K (nI d) (0 : Int32) v M) (fun v M => if v = (33 : Int32) then
     ((F_M_opens M).bind (fun q11 =>
     if (q11 48 4) = (-1 : Int32) then
     ((G q11).bind (fun q13 =>
     (F_M_put (9 : Int32) (0 : Int32) q13).bind (fun q14 =>
     mj_lt (mj_u q14 48 5 ((q14 48 5) - (1 : Int32))) (fun M15 =>
     some M15))))
     else
     (some q11)))
     else
     (if v = (40 : Int32) then
     ((F_M_opens M).bind (fun q7 =>
     if (q7 48 4) = (-1 : Int32) then
     ((F_M_condition N G q7).bind (fun q9 =>
     (F_M_closes N (41 : Int32) q9).bind (fun q10 =>
     some q10)))
     else
     (some q7)))
     else
     ((F_M_sum N 10 M).bind (fun q4 =>
     if (q4 48 4) = (-1 : Int32) then
     ((F_M_compare N q4).bind (fun q6 =>
     some q6))
     else
     (some q4))))) ?_).cg (fun B M l h => by rw [F_LawReader_readUnit_body, if_pos rfl]) (fun C M L h => rfl)
  rw [hch]
  generalize hpp : mk_sq τ z p = p0 at *
  generalize hcc : mk_c0 τ z p0 = c at *
  by_cases e1 : c = 33
  · subst e1
    refine (mk_Anot hz hd (show p0 < z by omega) (h := 16 - 2 * d) (f := K (nI (d + 1)) (0 : Int32)) (g := G) (fun d6 => (hK d6 (p0 + 1) (by omega)).wk (fun q hq ts hts => hq ts (by omega)) (Nat.le_refl _))).cg (fun B M l h => ?_) (fun C M L h => ?_)
    · rw [F_LawReader_readUnit_body_b15, if_pos (show nI 33 = (33 : Int32) from rfl), nI_1]
      simp only [mk_bid]
    · show (if mk_mc 33 = (33 : Int32) then _ else _) = _
      rw [if_pos (show mk_mc 33 = (33 : Int32) by decide +kernel)]
      rfl
  by_cases e2 : c = 40
  · subst e2
    refine (mk_Apar hN hz hd (show p0 < z by omega) (cc := 41) (by omega) (P := mk_ty true (16 - 2 * d)) (f := F_LawReader_readCondition N K (nI (d + 1)) (0 : Int32)) (g := F_M_condition N G) (fun d6 => (mk_Acond hN hz (hK d6) (show p0 + 1 ≤ z by omega)).wk (fun q hq ts hts => hq ts (by omega)) (Nat.le_refl _))).cg (fun B M l h => ?_) (fun C M L h => ?_)
    · rw [F_LawReader_readUnit_body_b15, if_neg (show ¬ nI 40 = (33 : Int32) by decide +kernel), if_pos (show nI 40 = (40 : Int32) from rfl), nI_1]
      simp only [mk_bid]
      rfl
    · show (if mk_mc 40 = (33 : Int32) then _ else _) = _
      rw [if_neg (show ¬ mk_mc 40 = (33 : Int32) by decide +kernel), if_pos (show mk_mc 40 = (40 : Int32) by decide +kernel)]
      simp only [mk_bid]
      rfl
  refine (((mk_Asum hN hz 10 d hd (by omega) p0 (by omega)).sq (f2 := F_LawReader_readUnit_body_b91 N K (nI d)) (g2 := fun q4 => if (q4 48 4) = (-1 : Int32) then F_M_compare N q4 else some q4) (fun p' h1 h2 => (mk_Acmp hN hz hd h2).cg (fun B M l h => rfl) (fun C M L h => if_pos h.ok)) (fun B w M h => mk_XF91 hN (nI d) h) (fun C w s M h => ⟨M, if_neg h.ok, h⟩)).wk (P' := mk_ty true (16 - 2 * d)) (e' := 1) (fun q hq => ?_) (by omega)).cg (fun B M l h => ?_) (fun C M L h => ?_)
  · obtain ⟨a, b, rfl, ha, hb⟩ := hq
    intro ts hts
    rw [mk_ts_app, ha ts (by omega), mk_bs]
    exact hb ts hts
  · rw [F_LawReader_readUnit_body_b15, if_neg (by rw [nl_33, nw_eq (by omega) (by omega)]; exact e1), if_neg (by rw [nl_40, nw_eq (by omega) (by omega)]; exact e2), if_pos rfl]
  · show (if mk_mc c = (33 : Int32) then _ else _) = _
    rw [if_neg (by rw [nl_33, mk_mc_eq hc (by omega) (by omega)]; exact e1), if_neg (by rw [nl_40, mk_mc_eq hc (by omega) (by omega)]; exact e2)]
    simp only [mk_bid]
theorem mk_Aunit (hN : 1000 ≤ N) (hz : mk_tp τ z) : ∀ n d, d ≤ 6 → 7 - d ≤ n → ∀ p, p ≤ z → mk_gg τ z r (mk_ty true (16 - 2 * d)) 1 d p (F_LawReader_readUnit N n (nI d) (0 : Int32)) (F_M_unit N n) := by
  intro n
  induction n with
  | zero => intro d h1 h2; omega
  | succ n ih =>
    intro d h1 h2 p hp
    refine (mk_Aunit0 hN hz h1 (K := F_LawReader_readUnit N n) (G := F_M_unit N n) (fun h6 p hp => ih (d + 1) (by omega) (by omega) p hp) hp).cg (fun B M l h => ?_) (fun C M L h => ?_)
    · rw [F_LawReader_readUnit]
    · rw [F_M_unit]
/-- a condition whose first sum is read -/
theorem mk_Abeg (hN : 1000 ≤ N) (hz : mk_tp τ z) (hp : p ≤ z) : mk_gg τ z r (mk_tq [false] true 18) 1 0 p (F_LawReader_readCondition N (F_LawReader_readUnit N 10) (0 : Int32) (1 : Int32)) (fun M => (F_M_compare N M).bind fun q => (F_M_goOnAnd N (F_M_unit N 10) q).bind fun q => F_M_goOnOr N (F_M_unit N 10) q) := by
  have hU : ∀ p, p ≤ z → mk_gg τ z r (mk_ty true 16) 1 0 p (F_LawReader_readUnit N 10 (nI 0) (0 : Int32)) (F_M_unit N 10) := fun p hp => mk_Aunit hN hz 10 0 (by omega) (by omega) p hp
  refine (mk_Acnd hN hz hU (mk_Atru hN hz hU (mk_Acmp (d := 0) (K := F_LawReader_readUnit N 9) hN hz (by omega) hp))).cg (fun B M l h => ?_) (fun C M L h => ?_)
  · unfold F_LawReader_readCondition F_LawReader_readTruth
    rw [F_LawReader_readUnit, F_LawReader_readUnit_body, if_neg (show ¬ (1 : Int32) = 0 by decide +kernel), F_LawReader_readUnit_body_b15, if_neg (show ¬ (0 : Int32) = (33 : Int32) by decide +kernel), if_neg (show ¬ (0 : Int32) = (40 : Int32) by decide +kernel), if_neg (show ¬ (1 : Int32) = 0 by decide +kernel)]
    rfl
  · rw [Option.bind_assoc]
theorem mk_Acon0 (hN : 1000 ≤ N) (hz : mk_tp τ z) (hp : p ≤ z) : mk_gg τ z r (mk_ty true 18) 1 0 p (F_LawReader_readCondition N (F_LawReader_readUnit N 10) (0 : Int32) (0 : Int32)) (F_M_condition N (F_M_unit N 10)) :=
  mk_Acond (d := 0) (h := 16) hN hz (fun p hp => mk_Aunit hN hz 10 0 (by omega) (by omega) p hp) hp
end Unit_
