/-! ===== the pure side: learns, ties, rest ===== -/
theorem op_11 {N : Nat} (hN : 10000 ≤ N) : mo_11 N mk_I := by
  intro M ⟨S, A, hw, hX, hM⟩ a
  have h6 := hw.h6
  have t6 := hw.t6
  have hs := hw.now.spot
  have hb := hw.now.bread
  have ho := hw.now.own t6
  have hht := hw.ht
  rcases mk_ix a (n := S 48 26) (by omega) with h | ⟨t, ht, rfl⟩
  · refine mk_refuse hw hX hM 0 (by omega) (fun M hX => ⟨M, hX, mk_fx.rf, ?_⟩) (fun M hM => ⟨M, hM, mk_fm.rf, fun M1 e => ?_⟩)
    · unfold F_W_learns; rw [mk_Xt0 hX h]; rfl
    · unfold F_M_learns; rw [mk_Mt0 hM hw h]; exact r_learns (N := N) (x := a) e
  have hb2 := nw_b2 (S 65 43) t
  have hX1 : ∀ M, mk_X S A M → F_W_learns (nI t) M = (if nw_b (S 65 43) t = 0 then (if S 65 (S 65 42 * 6 + t) = 0 then F_W_learns_b51 M else (if 1 ≤ S 65 44 then (if 9999 < S 65 45 + 2 then (F_W_refuse (nI 4) M).bind (fun q => some (q.1, q.2)) else (F_Past_keep_c20 M).bind (fun q9 => mj_lt (mj_u q9 20 3 ((q9 20 3) + (2 : Int32))) (fun M10 => mj_lt (mj_u M10 20 2 ((M10 20 2) - (1 : Int32))) (fun M11 => mj_lt (mj_u M11 20 1 ((M11 20 1) ||| ((1 : Int32) <<< (nI t &&& 31)))) (fun M12 => (F_Integer_bitCount (M12 20 1) M12).bind (fun q13 => some (q13.1, q13.2))))))) else (F_W_refuse (nI 3) M).bind (fun q => some (q.1, q.2)))) else F_W_learns_b51 M) := by
    intro M hX
    have h99 := hw.now.heard (S 65 42 * 6 + t) (by omega)
    unfold F_W_learns
    rw [mk_Xt1 hX hw ht]
    simp only [Option.bind_some]
    rw [if_neg (by decide +kernel), mk_Xowns hX hw (by omega)]
    simp only [Option.bind_some]
    rw [hX.now.1, nl_6, pk_mul, nI_add, nw_ck (by omega) (by omega), nI_clamp (by omega), hX.now.heard _ (by omega), hX.now.2.2.1, show F_Stand_hasDays 2 M = _ from mk_Xdays hX hw (d := 2) (by omega)]
    by_cases c0 : nw_b (S 65 43) t = 0
    · rw [if_pos c0, c0, if_pos (show nI 0 = (0 : Int32) from rfl)]
      by_cases c1 : S 65 (S 65 42 * 6 + t) = 0
      · rw [if_pos c1, c1, if_pos (show nI 0 = (0 : Int32) from rfl)]
      · rw [if_neg c1, if_neg (show ¬ nI (S 65 (S 65 42 * 6 + t)) = (0 : Int32) from nI_ne0 (by omega) (by omega))]
        by_cases c2 : 1 ≤ S 65 44
        · rw [if_pos c2, if_pos (show (1 : Int32) ≤ nI (S 65 44) from nI_le (a := 1) c2 (by omega))]
          simp only [Option.bind_some]
          by_cases c3 : 9999 < S 65 45 + 2
          · rw [if_pos (show (if 9999 < S 65 45 + 2 then (0 : Int32) else 1) = 0 by rw [if_pos c3]), if_pos c3]; rfl
          · rw [if_neg (show ¬ (if 9999 < S 65 45 + 2 then (0 : Int32) else 1) = 0 by rw [if_neg c3]; decide +kernel), if_neg c3]
        · rw [if_neg c2, if_neg (show ¬ (1 : Int32) ≤ nI (S 65 44) from nI_ge (b := 1) (by omega) (by omega))]; rfl
    · rw [if_neg c0, show nw_b (S 65 43) t = 1 by omega, if_neg (show ¬ nI 1 = (0 : Int32) by decide +kernel)]
  have hM1 : ∀ M, mk_M S A M → F_M_learns N (nI t) M = F_M_learns_b68 N (nI t) (if nw_b (S 65 43) t = 0 then (if S 65 (S 65 42 * 6 + t) = 0 then nI 2 else (if 1 ≤ S 65 44 then (if 9999 < S 65 45 + 2 then nI 4 else -1) else nI 3)) else nI 2) M := by
    intro M hM
    have h99 := hw.now.heard (S 65 42 * 6 + t) (by omega)
    have hsp := hw.now.spotH (by omega)
    unfold F_M_learns
    rw [mk_Mt1 hM hw ht]
    simp only [Option.bind_some]
    rw [if_neg (by decide +kernel), mk_Mowns hM hw (by omega)]
    simp only [Option.bind_some]
    rw [hM.now 42 (by omega), mk_Mheard hw hM hsp ht]
    simp only [Option.bind_some]
    rw [hM.now 44 (by omega), show F_M_isLate 2 M = _ from mk_Mlate hM hw (d := 2) (by omega)]
    by_cases c0 : nw_b (S 65 43) t = 0
    · rw [if_pos c0, c0, if_pos (show nI 0 = (0 : Int32) from rfl)]
      by_cases c1 : S 65 (S 65 42 * 6 + t) = 0
      · rw [if_pos c1, c1, if_pos (show nI 0 = (0 : Int32) from rfl)]; rfl
      · rw [if_neg c1, if_neg (show ¬ nI (S 65 (S 65 42 * 6 + t)) = (0 : Int32) from nI_ne0 (by omega) (by omega))]
        by_cases c2 : 1 ≤ S 65 44
        · rw [if_pos c2, if_pos (show (1 : Int32) ≤ nI (S 65 44) from nI_le (a := 1) c2 (by omega))]
          simp only [Option.bind_some]
          by_cases c3 : 9999 < S 65 45 + 2
          · rw [if_pos c3, if_neg (show ¬ (if S 65 45 + 2 ≤ 9999 then (0 : Int32) else 1) = 0 by rw [if_neg (by omega)]; decide +kernel)]; rfl
          · rw [if_neg c3, if_pos (show (if S 65 45 + 2 ≤ 9999 then (0 : Int32) else 1) = 0 by rw [if_pos (by omega)])]
        · rw [if_neg c2, if_neg (show ¬ (1 : Int32) ≤ nI (S 65 44) from nI_ge (b := 1) (by omega) (by omega))]; rfl
    · rw [if_neg c0, show nw_b (S 65 43) t = 1 by omega, if_neg (show ¬ nI 1 = (0 : Int32) by decide +kernel)]; rfl
  have no2 : (∀ M, mk_X S A M → F_W_learns (nI t) M = F_W_learns_b51 M) → (∀ M, mk_M S A M → F_M_learns N (nI t) M = F_M_learns_b68 N (nI t) (nI 2) M) → ∃ r M1 M2, F_W_learns (nI t) M = some (r, M1) ∧ F_M_learns N (nI t) M1 = some (r, M2) ∧ mk_I M2 := by
    intro hx hm
    refine mk_refuse hw hX hM 2 (by omega) (fun M hX => ⟨M, hX, mk_fx.rf, ?_⟩) (fun M hM => ⟨M, hM, mk_fm.rf, fun M1 e => ?_⟩)
    · rw [hx M hX]; rfl
    · rw [hm M hM]; exact r_learns e
  by_cases c0 : nw_b (S 65 43) t = 0
  · simp only [if_pos c0] at hX1 hM1
    by_cases c1 : S 65 (S 65 42 * 6 + t) = 0
    · simp only [if_pos c1] at hX1 hM1
      exact no2 hX1 hM1
    · simp only [if_neg c1] at hX1 hM1
      by_cases c2 : 1 ≤ S 65 44
      · simp only [if_pos c2] at hX1 hM1
        by_cases c3 : 9999 < S 65 45 + 2
        · simp only [if_pos c3] at hX1 hM1
          refine mk_refuse hw hX hM 4 (by omega) (fun M hX => ⟨M, hX, mk_fx.rf, ?_⟩) (fun M hM => ⟨M, hM, mk_fm.rf, fun M1 e => ?_⟩)
          · rw [hX1 M hX]
          · rw [hM1 M hM]; exact r_learns e
        · simp only [if_neg c3] at hX1 hM1
          have hk := hw.keep (by omega)
          have hk6 := hk.1.t6
          have h2t : 2 ^ t < 2 ^ S 48 26 := Nat.pow_lt_pow_right (by omega) ht
          have hor : S 65 43 ||| 2 ^ t < 2 ^ S 48 26 := Nat.or_lt_two_pow hw.now.2.2.1 h2t
          have hor6 := mk_or6 ho (show t < 6 by omega)
          refine mk_fin (S' := mk_u (mk_u (mk_u (mk_keep S) 65 45 (S 65 45 + 2)) 65 44 (S 65 44 - 1)) 65 43 (S 65 43 ||| 2 ^ t)) (A' := A) (r := nI (mk_pc (S 65 43 ||| 2 ^ t))) ?_ hX hM (fun M hX => ?_) (fun M hM => ?_)
          · refine hk.1.now' (fun c hc => by rw [mk_un1 hc, mk_un1 hc, mk_un1 hc]) ?_ ?_
            · simp only [mk_u5]
              refine ((hk.1.now.u45 hk6 (by omega) (by rw [mk_k5]; omega)).u44 hk6 (by omega)).u43 hk6 ?_
              rw [mk_kT]; exact hor
            · simp only [mk_u5]
              rw [mj_up_ne _ _ _ (by omega), mj_up_ne _ _ _ (by omega), mj_up_ne _ _ _ (by omega)]
          · obtain ⟨M1, e1, x1, f1⟩ := mk_Xkeep hw hX
            rw [hX1 M hX, e1]
            simp only [Option.bind_some, mj_lt]
            simp (disch := omega) only [mj_u_eq, mj_up_ne, mj_up_eq]
            rw [x1.now.2.2.2.1, x1.now.2.2.1, x1.now.2.1, mk_k5, nl_2, nI_add, nl_1, pk_sub c2, nl_31, nw_shl (by omega), nw_or, mk_bc hor6]
            refine ⟨_, rfl, ?_, ((f1.u (by omega)).u (by omega)).u (by omega)⟩
            exact ((x1.n45 hk6).n44 (by rw [mk_un1 (by omega)]; exact hk6)).n43 (by rw [mk_un1 (by omega), mk_un1 (by omega)]; exact hk6)
          · obtain ⟨M1, e1, x1, f1⟩ := mk_Mkeep hN hw hM
            rw [hM1 M hM]
            unfold F_M_learns_b68
            rw [mk_Mref1]
            simp only [Option.bind_some]
            rw [if_pos trivial, e1]
            simp only [Option.bind_some, mj_lt]
            simp (disch := omega) only [mj_u_eq, mj_up_ne, mj_up_eq]
            rw [x1.now 43 (by omega), x1.now 44 (by omega), x1.now 45 (by omega), mk_k5, nl_2, nI_add, nl_1, pk_sub c2, nl_31, nw_shl (by omega), nw_or, mk_bc hor6]
            refine ⟨_, rfl, ?_, ((f1.u (by omega)).u (by omega)).u (by omega)⟩
            rw [mk_u_comm (a := 44) (b := 43) (by omega), mk_u_comm (a := 45) (b := 43) (by omega), mk_u_comm (a := 45) (b := 44) (by omega)]
            exact x1.n.n.n
      · simp only [if_neg c2] at hX1 hM1
        refine mk_refuse hw hX hM 3 (by omega) (fun M hX => ⟨M, hX, mk_fx.rf, ?_⟩) (fun M hM => ⟨M, hM, mk_fm.rf, fun M1 e => ?_⟩)
        · rw [hX1 M hX]
        · rw [hM1 M hM]; exact r_learns e
  · simp only [if_neg c0] at hX1 hM1
    exact no2 hX1 hM1
theorem op_12 {N : Nat} (hN : 10000 ≤ N) : mo_12 N mk_I := by
  intro M ⟨S, A, hw, hX, hM⟩ a
  have h6 := hw.h6
  have t6 := hw.t6
  have hb := hw.now.bread
  have hht := hw.ht
  rcases mk_ix a (n := S 48 26) (by omega) with h | ⟨t, ht, rfl⟩
  · refine mk_refuse hw hX hM 0 (by omega) (fun M hX => ⟨M, hX, mk_fx.rf, ?_⟩) (fun M hM => ⟨M, hM, mk_fm.rf, fun M1 e => ?_⟩)
    · unfold F_W_ties; rw [mk_Xt0 hX h]; rfl
    · unfold F_M_ties; rw [mk_Mt0 hM hw h]; exact r_ties (N := N) (x := a) e
  have hb2 := nw_b2 (S 65 43) t
  have hkn := hw.now.knots t ht
  have hX1 : ∀ M, mk_X S A M → F_W_ties (nI t) M = (if nw_b (S 65 43) t = 0 then F_W_ties_b42 M else (if S 65 (36 + t) < 9 then (if 2 ≤ S 65 44 then (F_Past_keep_c20 M).bind (fun q7 => mj_lt (mj_u q7 20 2 ((q7 20 2) - (2 : Int32))) (fun M8 => (mj_lt (mj_u M8 21 t ((M8 21 t) + (1 : Int32))) (fun M9 => some (M9 21 t, M9))))) else (F_W_refuse (nI 3) M).bind (fun q => some (q.1, q.2))) else F_W_ties_b42 M)) := by
    intro M hX
    unfold F_W_ties
    rw [mk_Xt1 hX hw ht]
    simp only [Option.bind_some]
    rw [if_neg (by decide +kernel), mk_Xowns hX hw (by omega)]
    simp only [Option.bind_some, nw_ck (show t < 6 by omega) (show 6 < 2 ^ 31 by omega), nI_clamp (show t < 2 ^ 31 by omega)]
    rw [hX.now.knots t ht, hX.now.2.2.1]
    by_cases c0 : nw_b (S 65 43) t = 0
    · rw [if_pos c0, c0, if_pos (show nI 0 = (0 : Int32) from rfl)]
    · rw [if_neg c0, show nw_b (S 65 43) t = 1 by omega, if_neg (show ¬ nI 1 = (0 : Int32) by decide +kernel)]
      by_cases c1 : S 65 (36 + t) < 9
      · rw [if_pos c1, if_pos (show nI (S 65 (36 + t)) < (9 : Int32) from nI_lt (b := 9) c1 (by omega))]
        by_cases c2 : 2 ≤ S 65 44
        · rw [if_pos c2, if_pos (show (2 : Int32) ≤ nI (S 65 44) from nI_le (a := 2) c2 (by omega))]
        · rw [if_neg c2, if_neg (show ¬ (2 : Int32) ≤ nI (S 65 44) from nI_ge (b := 2) (by omega) (by omega))]; rfl
      · rw [if_neg c1, if_neg (show ¬ nI (S 65 (36 + t)) < (9 : Int32) from nI_nlt (b := 9) (by omega) (by omega))]
  have hM1 : ∀ M, mk_M S A M → F_M_ties N (nI t) M = F_M_ties_b55 N (nI t) (if nw_b (S 65 43) t = 0 then nI 2 else (if S 65 (36 + t) < 9 then (if 2 ≤ S 65 44 then -1 else nI 3) else nI 2)) M := by
    intro M hM
    unfold F_M_ties
    rw [mk_Mt1 hM hw ht]
    simp only [Option.bind_some]
    rw [if_neg (by decide +kernel), mk_Mowns hM hw (by omega)]
    simp only [Option.bind_some]
    rw [nl_36, nI_add, nw_ck (by omega) (by omega), nI_clamp (by omega), hM.now _ (by omega), hM.now 44 (by omega)]
    by_cases c0 : nw_b (S 65 43) t = 0
    · rw [if_pos c0, c0, if_pos (show nI 0 = (0 : Int32) from rfl)]; rfl
    · rw [if_neg c0, show nw_b (S 65 43) t = 1 by omega, if_neg (show ¬ nI 1 = (0 : Int32) by decide +kernel)]
      by_cases c1 : S 65 (36 + t) < 9
      · rw [if_pos c1, if_neg (show ¬ nI (S 65 (36 + t)) = (9 : Int32) by rw [nl_9, nw_eq (by omega) (by omega)]; omega)]
        by_cases c2 : 2 ≤ S 65 44
        · rw [if_pos c2, if_pos (show (2 : Int32) ≤ nI (S 65 44) from nI_le (a := 2) c2 (by omega))]
        · rw [if_neg c2, if_neg (show ¬ (2 : Int32) ≤ nI (S 65 44) from nI_ge (b := 2) (by omega) (by omega))]; rfl
      · rw [if_neg c1, if_pos (show nI (S 65 (36 + t)) = (9 : Int32) by rw [nl_9, nw_eq (by omega) (by omega)]; omega)]; rfl
  have no2 : (∀ M, mk_X S A M → F_W_ties (nI t) M = F_W_ties_b42 M) → (∀ M, mk_M S A M → F_M_ties N (nI t) M = F_M_ties_b55 N (nI t) (nI 2) M) → ∃ r M1 M2, F_W_ties (nI t) M = some (r, M1) ∧ F_M_ties N (nI t) M1 = some (r, M2) ∧ mk_I M2 := by
    intro hx hm
    refine mk_refuse hw hX hM 2 (by omega) (fun M hX => ⟨M, hX, mk_fx.rf, ?_⟩) (fun M hM => ⟨M, hM, mk_fm.rf, fun M1 e => ?_⟩)
    · rw [hx M hX]; rfl
    · rw [hm M hM]; exact r_ties e
  by_cases c0 : nw_b (S 65 43) t = 0
  · simp only [if_pos c0] at hX1 hM1
    exact no2 hX1 hM1
  simp only [if_neg c0] at hX1 hM1
  by_cases c1 : S 65 (36 + t) < 9
  · simp only [if_pos c1] at hX1 hM1
    by_cases c2 : 2 ≤ S 65 44
    · simp only [if_pos c2] at hX1 hM1
      have hk := hw.keep (by omega)
      have hk6 := hk.1.t6
      refine mk_fin (S' := mk_u (mk_u (mk_keep S) 65 44 (S 65 44 - 2)) 65 (36 + t) (S 65 (36 + t) + 1)) (A' := A) (r := nI (S 65 (36 + t) + 1)) ?_ hX hM (fun M hX => ?_) (fun M hM => ?_)
      · refine hk.1.now' (fun c hc => by rw [mk_un1 hc, mk_un1 hc]) ?_ ?_
        · simp only [mk_u5]
          exact (hk.1.now.u44 hk6 (by omega)).uk hk6 (by omega) (by omega)
        · simp only [mk_u5]
          rw [mj_up_ne _ _ _ (by omega), mj_up_ne _ _ _ (by omega)]
      · obtain ⟨M1, e1, x1, f1⟩ := mk_Xkeep hw hX
        rw [hX1 M hX, e1]
        simp only [Option.bind_some, mj_lt]
        simp (disch := omega) only [mj_u_eq, mj_up_ne, mj_up_eq, nw_u9]
        rw [x1.now.2.2.1, x1.now.knots t (by rw [mk_kT]; exact ht), mk_k5, nl_2, pk_sub c2, nI_1]
        refine ⟨_, rfl, ?_, (f1.u (by omega)).u (by omega)⟩
        exact (x1.n44 hk6).nk (by omega)
      · obtain ⟨M1, e1, x1, f1⟩ := mk_Mkeep hN hw hM
        rw [hM1 M hM]
        unfold F_M_ties_b55
        rw [mk_Mref1]
        simp only [Option.bind_some]
        rw [if_pos trivial, e1]
        simp only [Option.bind_some, mj_lt]
        simp (disch := omega) only [nl_36, nI_add, nw_ck, nI_clamp, mj_u_eq, mj_up_ne, mj_up_eq]
        rw [x1.now (36 + t) (by omega), x1.now 44 (by omega), mk_k5, nl_2, pk_sub c2, nI_1]
        refine ⟨_, rfl, ?_, (f1.u (by omega)).u (by omega)⟩
        rw [mk_u_comm (a := 44) (b := 36 + t) (by omega)]
        exact x1.n.n
    · simp only [if_neg c2] at hX1 hM1
      refine mk_refuse hw hX hM 3 (by omega) (fun M hX => ⟨M, hX, mk_fx.rf, ?_⟩) (fun M hM => ⟨M, hM, mk_fm.rf, fun M1 e => ?_⟩)
      · rw [hX1 M hX]
      · rw [hM1 M hM]; exact r_ties e
  · simp only [if_neg c1] at hX1 hM1
    exact no2 hX1 hM1
theorem op_13 {N : Nat} (hN : 10000 ≤ N) : mo_13 N mk_I := by
  intro M ⟨S, A, hw, hX, hM⟩
  have h6 := hw.h6
  have t6 := hw.t6
  have hb := hw.now.bread
  have hd := hw.now.day
  by_cases c : S 48 25 = 0
  · refine mk_refuse hw hX hM 0 (by omega) (fun M hX => ⟨M, hX, mk_fx.rf, ?_⟩) (fun M hM => ⟨M, hM, mk_fm.rf, fun M1 e => ?_⟩)
    · unfold F_W_rest; rw [mk_Xtold0 hX c]; rfl
    · unfold F_M_rest F_M_rest_b27 F_M_rest_b28
      rw [if_pos (show M 48 25 ≤ 0 by rw [mk_H0 hM c]; decide +kernel), if_pos (mk_H0 hM c)]
      exact r_rest (N := N) (x := 0) e
  have hsp := hw.now.spotH (by omega)
  obtain ⟨q, hq, hqd⟩ : ∃ q, q ≤ 1 ∧ q = (if 5 ≤ S 63 (3 * S 65 42 + 2) then 0 else 1) := ⟨_, by split <;> omega, rfl⟩
  have hwa := hw.house (S 65 42) hsp
  have hX1 : ∀ M, mk_X S A M → F_W_rest M = (if q ≤ S 65 44 then (if 9999 < S 65 45 + 1 then (F_W_refuse (nI 4) M).bind (fun q => some (q.1, q.2)) else (F_Past_keep_c20 M).bind (fun q8 => mj_lt (mj_u q8 20 3 ((q8 20 3) + (1 : Int32))) (fun M9 => mj_lt (mj_u M9 20 2 ((M9 20 2) - nI q)) (fun M10 => some (M10 20 2, M10))))) else (F_W_refuse (nI 3) M).bind (fun q => some (q.1, q.2))) := by
    intro M hX
    have e40 : F_W_rest_b40 (nI q) M = (if q ≤ S 65 44 then (if 9999 < S 65 45 + 1 then (F_W_refuse (nI 4) M).bind (fun q => some (q.1, q.2)) else (F_Past_keep_c20 M).bind (fun q8 => mj_lt (mj_u q8 20 3 ((q8 20 3) + (1 : Int32))) (fun M9 => mj_lt (mj_u M9 20 2 ((M9 20 2) - nI q)) (fun M10 => some (M10 20 2, M10))))) else (F_W_refuse (nI 3) M).bind (fun q => some (q.1, q.2))) := by
      unfold F_W_rest_b40
      rw [hX.now.2.2.1, show F_Stand_hasDays 1 M = _ from mk_Xdays hX hw (d := 1) (by omega)]
      simp (disch := omega) only [nw_le, Option.bind_some]
      by_cases c2 : q ≤ S 65 44
      · rw [if_pos c2, if_pos c2]
        by_cases c3 : 9999 < S 65 45 + 1
        · rw [if_pos (show (if 9999 < S 65 45 + 1 then (0 : Int32) else 1) = 0 by rw [if_pos c3]), if_pos c3]; rfl
        · rw [if_neg (show ¬ (if 9999 < S 65 45 + 1 then (0 : Int32) else 1) = 0 by rw [if_neg c3]; decide +kernel), if_neg c3]
      · rw [if_neg c2, if_neg c2]; rfl
    rw [← e40]
    unfold F_W_rest
    rw [mk_Xtold1 hX hw (by omega)]
    simp only [Option.bind_some]
    rw [if_neg (by decide +kernel), hX.now.1, nw_ck (by omega) (by omega), nI_clamp (by omega), hX.warm _ hsp, nl_5]
    simp (disch := omega) only [nw_le]
    rw [hqd]
    split <;> rfl
  have hM1 : ∀ M, mk_M S A M → F_M_rest N M = F_M_rest_b69 N (nI q) (if q ≤ S 65 44 then (if 9999 < S 65 45 + 1 then nI 4 else -1) else nI 3) M := by
    intro M hM
    have e28 : F_M_rest_b28 N (nI q) M = F_M_rest_b69 N (nI q) (if q ≤ S 65 44 then (if 9999 < S 65 45 + 1 then nI 4 else -1) else nI 3) M := by
      unfold F_M_rest_b28
      rw [if_neg (mk_H1 hM hw c), hM.now 44 (by omega), show F_M_isLate 1 M = _ from mk_Mlate hM hw (d := 1) (by omega)]
      simp (disch := omega) only [nw_le, Option.bind_some]
      by_cases c2 : q ≤ S 65 44
      · rw [if_pos c2, if_pos c2]
        by_cases c3 : 9999 < S 65 45 + 1
        · rw [if_neg (show ¬ (if S 65 45 + 1 ≤ 9999 then (0 : Int32) else 1) = 0 by rw [if_neg (by omega)]; decide +kernel), if_pos c3]; rfl
        · rw [if_pos (show (if S 65 45 + 1 ≤ 9999 then (0 : Int32) else 1) = 0 by rw [if_pos (by omega)]), if_neg c3]
      · rw [if_neg c2, if_neg c2]; rfl
    rw [← e28]
    unfold F_M_rest F_M_rest_b27
    rw [if_neg (show ¬ M 48 25 ≤ 0 by rw [hM.hs]; exact nI_nle (by omega) (by omega)), hM.now 42 (by omega), nl_2, mk_ofHouse hM hw hsp (by omega)]
    simp only [Option.bind_some]
    rw [nl_5]
    simp (disch := omega) only [nw_le]
    rw [hqd]
    split <;> rfl
  by_cases c2 : q ≤ S 65 44
  · simp only [if_pos c2] at hX1 hM1
    by_cases c3 : 9999 < S 65 45 + 1
    · simp only [if_pos c3] at hX1 hM1
      refine mk_refuse hw hX hM 4 (by omega) (fun M hX => ⟨M, hX, mk_fx.rf, ?_⟩) (fun M hM => ⟨M, hM, mk_fm.rf, fun M1 e => ?_⟩)
      · rw [hX1 M hX]
      · rw [hM1 M hM]; exact r_rest e
    · simp only [if_neg c3] at hX1 hM1
      have hk := hw.keep (by omega)
      have hk6 := hk.1.t6
      refine mk_fin (S' := mk_u (mk_u (mk_keep S) 65 45 (S 65 45 + 1)) 65 44 (S 65 44 - q)) (A' := A) (r := nI (S 65 44 - q)) ?_ hX hM (fun M hX => ?_) (fun M hM => ?_)
      · refine hk.1.now' (fun c hc => by rw [mk_un1 hc, mk_un1 hc]) ?_ ?_
        · simp only [mk_u5]
          exact (hk.1.now.u45 hk6 (by omega) (by rw [mk_k5]; omega)).u44 hk6 (by omega)
        · simp only [mk_u5]
          rw [mj_up_ne _ _ _ (by omega), mj_up_ne _ _ _ (by omega)]
      · obtain ⟨M1, e1, x1, f1⟩ := mk_Xkeep hw hX
        rw [hX1 M hX, e1]
        simp only [Option.bind_some, mj_lt]
        simp (disch := omega) only [mj_u_eq, mj_up_ne, mj_up_eq]
        rw [x1.now.2.2.1, x1.now.2.2.2.1, mk_k5, pk_sub c2, nI_1]
        refine ⟨_, rfl, ?_, (f1.u (by omega)).u (by omega)⟩
        exact (x1.n45 hk6).n44 (by rw [mk_un1 (by omega)]; exact hk6)
      · obtain ⟨M1, e1, x1, f1⟩ := mk_Mkeep hN hw hM
        rw [hM1 M hM]
        unfold F_M_rest_b69
        rw [mk_Mref1]
        simp only [Option.bind_some]
        rw [if_pos trivial, e1]
        simp only [Option.bind_some, mj_lt]
        simp (disch := omega) only [mj_u_eq, mj_up_ne, mj_up_eq]
        rw [x1.now 45 (by omega), x1.now 44 (by omega), mk_k5, pk_sub c2, nI_1]
        refine ⟨_, rfl, ?_, (f1.u (by omega)).u (by omega)⟩
        rw [mk_u_comm (a := 45) (b := 44) (by omega)]
        exact x1.n.n
  · simp only [if_neg c2] at hX1 hM1
    refine mk_refuse hw hX hM 3 (by omega) (fun M hX => ⟨M, hX, mk_fx.rf, ?_⟩) (fun M hM => ⟨M, hM, mk_fm.rf, fun M1 e => ?_⟩)
    · rw [hX1 M hX]
    · rw [hM1 M hM]; exact r_rest e
