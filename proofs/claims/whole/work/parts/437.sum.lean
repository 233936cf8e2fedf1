/-! ===== the pure side: sums and conditions ===== -/
section Sum
variable {N : Nat} {τ : Nat → Nat} {z r d p : Nat}
theorem mk_ty2 {b : Bool} {h : Nat} {q : List mk_T} (hq : ∃ a c, q = a ++ c ∧ mk_ty b h a ∧ mk_tl b (h + 1) c) : mk_ty b (h + 1) q := by
  obtain ⟨a, c, rfl, h1, h2⟩ := hq
  intro ts hts
  rw [mk_ts_app, h1 ts (by omega), mk_bs]
  exact h2 ts hts
theorem mk_Aterm (hN : 1000 ≤ N) (hz : mk_tp τ z) (hd : d ≤ 6) {K : Int32 → mj_M → Option mj_M} {G : mj_M → Option mj_M} (hA : ∀ p, p ≤ z → mk_gg τ z r (mk_ty false (13 - 2 * d)) 1 d p (F_LawReader_readAtom N K (nI d)) (F_M_atom N G)) (hp : p ≤ z) : mk_gg τ z r (mk_ty false (14 - 2 * d)) 1 d p (F_LawReader_readTerm N K (nI d)) (F_M_term N G) := by
  have hz2 := hz.1
  have L := mk_gg.lp (N := N) (d := d) (c1 := 4) (c2 := 5) hN hz (fun ts => rfl) (fun ts => rfl) hA
    (fl := fun n i M => F_LawReader_readTerm_b7 N K n (nI d) i M) (gl := fun n M => if M 48 4 = (-1 : Int32) then (F_M_look N M).bind (fun q => F_M_term_b21 N G n q.1 q.2) else F_M_term_b21 N G n (-1 : Int32) M)
    (fun n i M => by
      show F_LawReader_readTerm_b7 N K (n + 1) (nI d) i M = _
      rw [F_LawReader_readTerm_b7]
      rfl)
    (fun n M h => by
      show (if M 48 4 = (-1 : Int32) then _ else _) = _
      rw [if_pos h]
      congr 1
      funext q
      rw [F_M_term_b21]
      show (if q.1 = nI 42 then _ else if q.1 = nI 47 then _ else _) = (if q.1 = nI 42 then _ else if q.1 = nI 47 then _ else _)
      by_cases h1 : q.1 = nI 42
      · rw [if_pos h1, if_pos h1, F_M_term_b33, h1]
        rfl
      · rw [if_neg h1, if_neg h1]
        by_cases h2 : q.1 = nI 47
        · rw [if_pos h2, if_pos h2, F_M_term_b33, h2]
          rfl
        · rw [if_neg h2, if_neg h2])
    (fun n M h => by
      show (if M 48 4 = (-1 : Int32) then _ else _) = _
      rw [if_neg h]
      rfl)
  have e : 14 - 2 * d = 13 - 2 * d + 1 := by omega
  rw [e]
  refine (((hA p hp).sq (fun p' h1 h2 => L (z - p' + 1) p' 0 N N (by omega) (by omega) h2 (by omega) (by omega)) (fun B w M h => ?_) (fun C w s M h => ?_)).wk (fun q hq => mk_ty2 hq) (Nat.le_refl _)).cg (fun B M l h => rfl) (fun C M L h => rfl)
  · obtain ⟨n, rfl⟩ : ∃ k, N = k + 1 := ⟨N - 1, by omega⟩
    refine ⟨M, ?_, h⟩
    rw [F_LawReader_readTerm_b7, if_neg (show ¬ (240 : Int32) ≤ nI 0 by decide +kernel), h.pk, mk_bs, if_neg (show ¬ (0 : Int32) = (42 : Int32) by decide +kernel), if_neg (show ¬ (0 : Int32) = (47 : Int32) by decide +kernel)]
  · obtain ⟨n, rfl⟩ : ∃ k, N = k + 1 := ⟨N - 1, by omega⟩
    refine ⟨M, ?_, h⟩
    show (if M 48 4 = (-1 : Int32) then _ else _) = _
    rw [if_neg h.ok]
    rfl
theorem mk_Asum0 (hN : 1000 ≤ N) (hz : mk_tp τ z) (hd : d ≤ 6) {K : Int32 → mj_M → Option mj_M} {G : mj_M → Option mj_M} (hA : ∀ p, p ≤ z → mk_gg τ z r (mk_ty false (14 - 2 * d)) 1 d p (F_LawReader_readTerm N K (nI d)) (F_M_term N G)) (hp : p ≤ z) : mk_gg τ z r (mk_ty false (15 - 2 * d)) 1 d p (F_LawReader_readSum_body N K (nI d)) (F_M_sum_body N G) := by
  have hz2 := hz.1
  have L := mk_gg.lp (N := N) (d := d) (c1 := 2) (c2 := 3) hN hz (fun ts => rfl) (fun ts => rfl) hA
    (fl := fun n i M => F_LawReader_readSum_body_b7 N K n (nI d) i M) (gl := fun n M => if M 48 4 = (-1 : Int32) then (F_M_look N M).bind (fun q => F_M_sum_body_b21 N G n q.1 q.2) else F_M_sum_body_b21 N G n (-1 : Int32) M)
    (fun n i M => by
      show F_LawReader_readSum_body_b7 N K (n + 1) (nI d) i M = _
      rw [F_LawReader_readSum_body_b7]
      rfl)
    (fun n M h => by
      show (if M 48 4 = (-1 : Int32) then _ else _) = _
      rw [if_pos h]
      congr 1
      funext q
      rw [F_M_sum_body_b21]
      show (if q.1 = nI 43 then _ else if q.1 = nI 45 then _ else _) = (if q.1 = nI 43 then _ else if q.1 = nI 45 then _ else _)
      by_cases h1 : q.1 = nI 43
      · rw [if_pos h1, if_pos h1, F_M_sum_body_b33, h1]
        rfl
      · rw [if_neg h1, if_neg h1]
        by_cases h2 : q.1 = nI 45
        · rw [if_pos h2, if_pos h2, F_M_sum_body_b33, h2]
          rfl
        · rw [if_neg h2, if_neg h2])
    (fun n M h => by
      show (if M 48 4 = (-1 : Int32) then _ else _) = _
      rw [if_neg h]
      rfl)
  have e : 15 - 2 * d = 14 - 2 * d + 1 := by omega
  rw [e]
  refine (((hA p hp).sq (fun p' h1 h2 => L (z - p' + 1) p' 0 N N (by omega) (by omega) h2 (by omega) (by omega)) (fun B w M h => ?_) (fun C w s M h => ?_)).wk (fun q hq => mk_ty2 hq) (Nat.le_refl _)).cg (fun B M l h => rfl) (fun C M L h => rfl)
  · obtain ⟨n, rfl⟩ : ∃ k, N = k + 1 := ⟨N - 1, by omega⟩
    refine ⟨M, ?_, h⟩
    rw [F_LawReader_readSum_body_b7, if_neg (show ¬ (240 : Int32) ≤ nI 0 by decide +kernel), h.pk, mk_bs, if_neg (show ¬ (0 : Int32) = (43 : Int32) by decide +kernel), if_neg (show ¬ (0 : Int32) = (45 : Int32) by decide +kernel)]
  · obtain ⟨n, rfl⟩ : ∃ k, N = k + 1 := ⟨N - 1, by omega⟩
    refine ⟨M, ?_, h⟩
    show (if M 48 4 = (-1 : Int32) then _ else _) = _
    rw [if_neg h.ok]
    rfl
theorem mk_Asum (hN : 1000 ≤ N) (hz : mk_tp τ z) : ∀ n d, d ≤ 6 → 7 - d ≤ n → ∀ p, p ≤ z → mk_gg τ z r (mk_ty false (15 - 2 * d)) 1 d p (F_LawReader_readSum N n (nI d)) (F_M_sum N n) := by
  intro n
  induction n with
  | zero => intro d h1 h2; omega
  | succ n ih =>
    intro d h1 h2 p hp
    refine (mk_Asum0 hN hz h1 (K := F_LawReader_readSum N n) (G := F_M_sum N n) (fun p hp => mk_Aterm hN hz h1 (fun p hp => mk_Aatom hN hz h1 (fun h6 p hp => ih (d + 1) (by omega) (by omega) p hp) hp) hp) hp).cg (fun B M l h => ?_) (fun C M L h => ?_)
    · rw [F_LawReader_readSum]
    · rw [F_M_sum]
theorem mk_XFsum (hN : 1000 ≤ N) {B M : mj_M} {w n : Nat} (x : Int32) (h : mk_lxf B w M) : F_LawReader_readSum N (n + 1) x M = some M := by
  have e1 : F_LawReader_readAtom N (F_LawReader_readSum N n) x M = some M := by
    unfold F_LawReader_readAtom
    rw [h.pk, mk_bs, if_pos (show (0 : Int32) < (48 : Int32) by decide +kernel), F_LawReader_readAtom_b41, if_neg (show ¬ (0 : Int32) = (91 : Int32) by decide +kernel), nl_0, mk_Xlet hN (by omega), if_neg (show ¬ mk_lo 0 < 6 by decide), h.fl, mk_bs]
  have hn : N = N - 1 + 1 := by omega
  have e2 : F_LawReader_readTerm N (F_LawReader_readSum N n) x M = some M := by
    unfold F_LawReader_readTerm
    rw [e1, mk_bs]
    have : ∀ m, F_LawReader_readTerm_b7 N (F_LawReader_readSum N n) (m + 1) x (0 : Int32) M = some M := fun m => by
      rw [F_LawReader_readTerm_b7, if_neg (show ¬ (240 : Int32) ≤ 0 by decide +kernel), h.pk, mk_bs, if_neg (show ¬ (0 : Int32) = (42 : Int32) by decide +kernel), if_neg (show ¬ (0 : Int32) = (47 : Int32) by decide +kernel)]
    have t := this (N - 1)
    rw [← hn] at t
    exact t
  rw [F_LawReader_readSum]
  unfold F_LawReader_readSum_body
  rw [e2, mk_bs]
  have : ∀ m, F_LawReader_readSum_body_b7 N (F_LawReader_readSum N n) (m + 1) x (0 : Int32) M = some M := fun m => by
    rw [F_LawReader_readSum_body_b7, if_neg (show ¬ (240 : Int32) ≤ 0 by decide +kernel), h.pk, mk_bs, if_neg (show ¬ (0 : Int32) = (43 : Int32) by decide +kernel), if_neg (show ¬ (0 : Int32) = (45 : Int32) by decide +kernel)]
  have t := this (N - 1)
  rw [← hn] at t
  exact t
end Sum
