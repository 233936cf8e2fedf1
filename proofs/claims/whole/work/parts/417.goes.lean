/-! ===== the pure side: goes, learns, ties, rest, give ===== -/
section Goes
variable {N : Nat} {S : mk_S} {A : mk_L} {M : mj_M}
theorem mk_Xdays (hX : mk_X S A M) (hw : mk_W S A) {d : Nat} (hd : d < 1000) : F_Stand_hasDays (nI d) M = some (if 9999 < S 65 45 + d then 0 else 1, M) := by
  have := hw.now.day
  unfold F_Stand_hasDays
  rw [hX.now.2.2.2.1, nI_add, nl_9999]
  simp (disch := omega) only [nw_lt]
  split <;> rfl
theorem mk_Mlate (hM : mk_M S A M) (hw : mk_W S A) {d : Nat} (hd : d < 1000) : F_M_isLate (nI d) M = some (if S 65 45 + d ≤ 9999 then 0 else 1, M) := by
  have := hw.now.day
  unfold F_M_isLate
  rw [hM.now 45 (by omega), nI_add, nl_9999]
  simp (disch := omega) only [nw_le]
  split <;> rfl
theorem mk_k5 : mk_keep S 65 = S 65 := mk_keepn (by omega) (by omega) (by omega)
theorem mk_kH : mk_keep S 48 25 = S 48 25 := by rw [mk_keep48, mj_up_ne _ _ _ (by omega)]
theorem mk_kT : mk_keep S 48 26 = S 48 26 := by rw [mk_keep48, mj_up_ne _ _ _ (by omega)]
/-- he walks: state -/
def mk_walk (S : mk_S) (h : Nat) : mk_S := mk_u (mk_u (mk_u S 65 44 (S 65 44 - nw_d h (S 65 42))) 65 42 h) 65 45 (S 65 45 + nw_d h (S 65 42))
theorem mk_walk_o {h c : Nat} (hc : c ≠ 65) : mk_walk S h c = S c := by unfold mk_walk; rw [mk_un1 hc, mk_un1 hc, mk_un1 hc]
theorem mk_walk_L {h k : Nat} (h2 : k ≠ 42) (h4 : k ≠ 44) (h5 : k ≠ 45) : mk_walk S h 65 k = S 65 k := by
  unfold mk_walk
  simp only [mk_u5]
  rw [mj_up_ne _ _ _ h5, mj_up_ne _ _ _ h2, mj_up_ne _ _ _ h4]
theorem mk_Wwalk (hw : mk_W S A) {h : Nat} (hh : h < S 48 25) (hd : S 65 45 + nw_d h (S 65 42) ≤ 9999) : mk_W (mk_walk S h) A := by
  have h6 := hw.h6
  have hb := hw.now.bread
  refine hw.now' (fun c hc => mk_walk_o hc) ?_ (mk_walk_L (by omega) (by omega) (by omega))
  unfold mk_walk
  simp only [mk_u5]
  refine ((hw.now.u44 hw.t6 (by omega)).u42 hw.t6 hh (by omega)).u45 hw.t6 hd ?_
  simp (disch := omega) only [mj_up_ne]
  omega
theorem mk_Xwalk (hw : mk_W S A) (hX : mk_X S A M) {h : Nat} (hh : h < 6) (hb : nw_d h (S 65 42) ≤ S 65 44) : ∃ M', F_Stand_walkTo (nI h) M = some M' ∧ mk_X (mk_walk S h) A M' ∧ mk_fx M M' := by
  have t6 := hw.t6
  unfold F_Stand_walkTo
  rw [mk_Xfar hX hw hh]
  simp only [Option.bind_some, mj_lt]
  rw [hX.now.2.2.2.1, nI_add]
  simp (disch := omega) only [mj_u_eq, mj_up_ne]
  rw [hX.now.2.2.1, pk_sub hb]
  refine ⟨_, rfl, ?_, ((mk_fx.rf.u (by omega)).u (by omega)).u (by omega)⟩
  unfold mk_walk
  rw [mk_u_comm (a := 42) (b := 45) (by omega), mk_u_comm (a := 44) (b := 45) (by omega)]
  have x1 := hX.n45 (v := S 65 45 + nw_d h (S 65 42)) t6
  have x2 := x1.n44 (v := S 65 44 - nw_d h (S 65 42)) (by rw [mk_un1 (by omega)]; exact t6)
  exact x2.n42 (by rw [mk_un1 (by omega), mk_un1 (by omega)]; exact t6)
theorem mk_Mgo (hw : mk_W S A) (hM : mk_M S A M) {h : Nat} (hh : h < 6) (hb : nw_d h (S 65 42) ≤ S 65 44) : ∃ M', F_M_goNow (nI h) M = some M' ∧ mk_M (mk_u (mk_u S 65 44 (S 65 44 - nw_d h (S 65 42))) 65 42 h) A M' ∧ mk_fm M M' := by
  unfold F_M_goNow
  rw [mk_Mfar hM hw hh]
  simp only [Option.bind_some, mj_lt]
  rw [hM.now 44 (by omega), pk_sub hb]
  exact ⟨_, rfl, hM.n.n, (mk_fm.rf.u (by omega)).u (by omega)⟩
theorem mk_Mwalk (hw : mk_W S A) (hM : mk_M S A M) {h d : Nat} (hh : h < 6) (hb : nw_d h (S 65 42) ≤ S 65 44) (hd : d = nw_d h (S 65 42)) : ∃ M', (F_M_goNow (nI h) M).bind (fun q => some (mj_u q 65 45 (q 65 45 + nI d))) = some M' ∧ mk_M (mk_walk S h) A M' ∧ mk_fm M M' := by
  obtain ⟨M1, e1, x1, f1⟩ := mk_Mgo hw hM hh hb
  rw [e1]
  simp only [Option.bind_some]
  refine ⟨_, rfl, ?_, f1.u (by omega)⟩
  rw [x1.now 45 (by omega), nI_add, mk_u5, mk_u5, mj_up_ne _ _ _ (by omega), mj_up_ne _ _ _ (by omega), hd]
  exact x1.n
end Goes
theorem op_10 {N : Nat} (hN : 10000 ≤ N) : mo_10 N mk_I := by
  intro M ⟨S, A, hw, hX, hM⟩ a
  have h6 := hw.h6
  have hs := hw.now.spot
  have hb := hw.now.bread
  rcases mk_ix a (n := S 48 25) (by omega) with h | ⟨h, hh, rfl⟩
  · refine mk_refuse hw hX hM 0 (by omega) (fun M hX => ⟨M, hX, mk_fx.rf, ?_⟩) (fun M hM => ⟨M, hM, mk_fm.rf, fun M1 e => ?_⟩)
    · unfold F_W_goes; rw [mk_Xh0 hX h]; rfl
    · unfold F_M_goes; rw [mk_Mh0 hM hw h]; exact r_goes (N := N) (x := a) e
  by_cases c0 : h = S 65 42
  · refine mk_refuse hw hX hM 2 (by omega) (fun M hX => ⟨M, hX, mk_fx.rf, ?_⟩) (fun M hM => ⟨M, hM, mk_fm.rf, fun M1 e => ?_⟩)
    · unfold F_W_goes; rw [mk_Xh1 hX hw hh]
      simp only [Option.bind_some]
      rw [if_neg (by decide +kernel), hX.now.1, if_pos (by rw [c0])]; rfl
    · unfold F_M_goes; rw [mk_Mh1 hM hw hh]
      simp only [Option.bind_some]
      rw [if_neg (by decide +kernel), hM.now 42 (by omega), if_pos (by rw [c0])]; exact r_goes e
  have hd : nw_d h (S 65 42) < 20 := by unfold nw_d; omega
  by_cases c1 : ¬ (nw_d h (S 65 42) ≤ S 65 44)
  · refine mk_refuse hw hX hM 3 (by omega) (fun M hX => ⟨M, hX, mk_fx.rf, ?_⟩) (fun M hM => ⟨M, hM, mk_fm.rf, fun M1 e => ?_⟩)
    · unfold F_W_goes; rw [mk_Xh1 hX hw hh]
      simp only [Option.bind_some]
      rw [if_neg (by decide +kernel), hX.now.1, if_neg (by rw [nw_eq (by omega) (by omega)]; exact c0), mk_Xfar hX hw (by omega)]
      simp only [Option.bind_some]
      rw [hX.now.2.2.1, if_neg (by rw [nw_le (by omega) (by omega)]; exact c1)]; rfl
    · unfold F_M_goes; rw [mk_Mh1 hM hw hh]
      simp only [Option.bind_some]
      rw [if_neg (by decide +kernel), hM.now 42 (by omega), if_neg (by rw [nw_eq (by omega) (by omega)]; exact c0), mk_Mfar hM hw (by omega)]
      simp only [Option.bind_some]
      rw [hM.now 44 (by omega), if_neg (by rw [nw_le (by omega) (by omega)]; exact c1)]; exact r_goes e
  have c1 := Decidable.not_not.mp c1
  have ex : ∀ M, mk_X S A M → F_W_goes (nI h) M = (if 9999 < S 65 45 + nw_d h (S 65 42) then (F_W_refuse (nI 4) M).bind (fun q => some (q.1, q.2)) else (F_Past_keep_c20 M).bind (fun q8 => (F_Stand_walkTo (nI h) q8).bind (fun q9 => some (nI (nw_d h (S 65 42)), q9)))) := by
    intro M hX
    unfold F_W_goes; rw [mk_Xh1 hX hw hh]
    simp only [Option.bind_some]
    rw [if_neg (by decide +kernel), hX.now.1, if_neg (by rw [nw_eq (by omega) (by omega)]; exact c0), mk_Xfar hX hw (by omega)]
    simp only [Option.bind_some]
    rw [hX.now.2.2.1, if_pos (by rw [nw_le (by omega) (by omega)]; exact c1), mk_Xdays hX hw (by omega)]
    simp only [Option.bind_some]
    by_cases c : 9999 < S 65 45 + nw_d h (S 65 42)
    · rw [if_pos c, if_pos rfl, if_pos c]; rfl
    · rw [if_neg c, if_neg (by decide +kernel), if_neg c]
  have em : ∀ M, mk_M S A M → F_M_goes N (nI h) M = (if S 65 45 + nw_d h (S 65 42) ≤ 9999 then F_M_goes_b64 N (nI h) (-1) M else F_M_goes_b64 N (nI h) (nI 4) M) := by
    intro M hM
    unfold F_M_goes; rw [mk_Mh1 hM hw hh]
    simp only [Option.bind_some]
    rw [if_neg (by decide +kernel), hM.now 42 (by omega), if_neg (by rw [nw_eq (by omega) (by omega)]; exact c0), mk_Mfar hM hw (by omega)]
    simp only [Option.bind_some]
    rw [hM.now 44 (by omega), if_pos (by rw [nw_le (by omega) (by omega)]; exact c1), mk_Mfar hM hw (by omega)]
    simp only [Option.bind_some]
    rw [mk_Mlate hM hw (by omega)]
    simp only [Option.bind_some]
    by_cases c : S 65 45 + nw_d h (S 65 42) ≤ 9999
    · rw [if_pos c, if_pos rfl, if_pos c]
    · rw [if_neg c, if_neg (by decide +kernel), if_neg c]; rfl
  by_cases c2 : ¬ (S 65 45 + nw_d h (S 65 42) ≤ 9999)
  · refine mk_refuse hw hX hM 4 (by omega) (fun M hX => ⟨M, hX, mk_fx.rf, ?_⟩) (fun M hM => ⟨M, hM, mk_fm.rf, fun M1 e => ?_⟩)
    · rw [ex M hX, if_pos (by omega)]
    · rw [em M hM, if_neg c2]; exact r_goes e
  have c2 := Decidable.not_not.mp c2
  have hk := hw.keep (by omega)
  have c1' : nw_d h (mk_keep S 65 42) ≤ mk_keep S 65 44 := by rw [mk_k5]; exact c1
  refine mk_fin (S' := mk_walk (mk_keep S) h) (A' := A) (r := nI (nw_d h (S 65 42))) (mk_Wwalk hk.1 (by rw [mk_kH]; exact hh) (by rw [mk_k5]; exact c2)) hX hM (fun M hX => ?_) (fun M hM => ?_)
  · obtain ⟨M1, e1, x1, f1⟩ := mk_Xkeep hw hX
    obtain ⟨M2, e2, x2, f2⟩ := mk_Xwalk hk.1 x1 (show h < 6 by omega) c1'
    refine ⟨M2, ?_, x2, f1.tr f2⟩
    rw [ex M hX, if_neg (by omega), e1]
    simp only [Option.bind_some]
    rw [e2]; rfl
  · obtain ⟨M1, e1, x1, f1⟩ := mk_Mkeep hN hw hM
    obtain ⟨M2, e2, x2, f2⟩ := mk_Mwalk hk.1 x1 (show h < 6 by omega) c1' (d := nw_d h (S 65 42)) (by rw [mk_k5])
    refine ⟨M2, ?_, x2, f1.tr f2⟩
    rw [em M hM, if_pos c2]
    unfold F_M_goes_b64
    rw [mk_Mref1]
    simp only [Option.bind_some]
    rw [if_pos trivial, e1]
    simp only [Option.bind_some]
    rw [mk_Mfar x1 hk.1 (by omega), mk_k5]
    simp only [Option.bind_some, mj_lt]
    cases hg : F_M_goNow (nI h) M1 with
    | none => rw [hg] at e2; cases e2
    | some q =>
      rw [hg] at e2
      have e2 := Option.some.inj e2
      simp only [Option.bind_some]
      rw [e2]
theorem op_14 {N : Nat} (hN : 10000 ≤ N) : mo_14 N mk_I := by
  intro M ⟨S, A, hw, hX, hM⟩ a
  have h6 := hw.h6
  have hb := hw.now.bread
  by_cases c : S 48 25 = 0
  · refine mk_refuse hw hX hM 0 (by omega) (fun M hX => ⟨M, hX, mk_fx.rf, ?_⟩) (fun M hM => ⟨M, hM, mk_fm.rf, fun M1 e => ?_⟩)
    · unfold F_W_give; rw [mk_Xtold0 hX c]; rfl
    · unfold F_M_give; rw [if_pos (mk_H0 hM c)]; exact r_give e
  have no : a < nI 1 ∨ nI (50 + 1) ≤ a → ∃ r M1 M2, F_W_give a M = some (r, M1) ∧ F_M_give N a M1 = some (r, M2) ∧ mk_I M2 := by
    intro h'
    refine mk_refuse hw hX hM 1 (by omega) (fun M hX => ⟨M, hX, mk_fx.rf, ?_⟩) (fun M hM => ⟨M, hM, mk_fm.rf, fun M1 e => ?_⟩)
    · unfold F_W_give
      rw [mk_Xtold1 hX hw (by omega)]
      simp only [Option.bind_some]
      rw [if_neg (by decide +kernel)]
      by_cases d : a < 1
      · rw [if_pos d]; rfl
      · rw [if_neg d, nl_50, if_pos (nw_gt (h'.resolve_left d) (by omega)).1]; rfl
    · unfold F_M_give
      rw [if_neg (mk_H1 hM hw c), nl_50, show F_M_in a 1 (nI 50) M = some (nI 0, M) from mk_Mloo (lo := 1) h' (by omega)]
      exact r_give (N := N) (x := a) e
  rcases mk_ix a (n := 51) (by omega) with h' | ⟨n, hn, rfl⟩
  · refine no (h'.imp (fun k => ?_) id)
    have h1 := Int32.lt_iff_toInt_lt.mp k
    apply Int32.lt_iff_toInt_lt.mpr
    rw [nI_toInt (by omega)]
    rw [show (0 : Int32).toInt = 0 from rfl] at h1
    omega
  by_cases c0 : n = 0
  · subst c0
    exact no (Or.inl (by decide +kernel))
  have ex : ∀ M, mk_X S A M → F_W_give (nI n) M = (if S 65 44 + n ≤ 999 then (F_Past_keep_c20 M).bind (fun q6 => some (mj_u q6 20 2 (q6 20 2 + nI n) 20 2, mj_u q6 20 2 (q6 20 2 + nI n))) else (F_W_refuse (nI 1) M).bind (fun q => some (q.1, q.2))) := by
    intro M hX
    unfold F_W_give
    rw [mk_Xtold1 hX hw (by omega)]
    simp only [Option.bind_some]
    rw [if_neg (by decide +kernel), nl_1, if_neg (nI_nlt (by omega) (by omega)), nl_50, if_neg (nI_nlt (by omega) (by omega)), hX.now.2.2.1, nI_add, nl_999]
    simp (disch := omega) only [nw_le]
    rfl
  have em : ∀ M, mk_M S A M → F_M_give N (nI n) M = (if S 65 44 + n ≤ 999 then F_M_give_b42 N (nI n) (-1) M else F_M_give_b42 N (nI n) (nI 1) M) := by
    intro M hM
    unfold F_M_give
    rw [if_neg (mk_H1 hM hw c), nl_50, show F_M_in (nI n) 1 (nI 50) M = some (nI 1, M) from mk_Mlo (lo := 1) (by omega) (by omega) (by omega)]
    simp only [Option.bind_some]
    rw [if_neg (show ¬ nI 1 = (0 : Int32) by decide +kernel), hM.now 44 (by omega), nI_add, nl_999]
    simp (disch := omega) only [nw_le]
    rfl
  by_cases c1 : ¬ (S 65 44 + n ≤ 999)
  · refine mk_refuse hw hX hM 1 (by omega) (fun M hX => ⟨M, hX, mk_fx.rf, ?_⟩) (fun M hM => ⟨M, hM, mk_fm.rf, fun M1 e => ?_⟩)
    · rw [ex M hX, if_neg c1]
    · rw [em M hM, if_neg c1]; exact r_give e
  have c1 := Decidable.not_not.mp c1
  have hk := hw.keep (by omega)
  refine mk_fin (S' := mk_u (mk_keep S) 65 44 (S 65 44 + n)) (A' := A) (r := nI (S 65 44 + n)) ?_ hX hM (fun M hX => ?_) (fun M hM => ?_)
  · refine hk.1.now' (fun c hc => mk_un1 hc) ?_ ?_
    · rw [mk_u5]; exact hk.1.now.u44 hk.1.t6 (by omega)
    · rw [mk_u5, mj_up_ne _ _ _ (by omega)]
  · obtain ⟨M1, e1, x1, f1⟩ := mk_Xkeep hw hX
    rw [ex M hX, if_pos c1, e1]
    simp only [Option.bind_some]
    rw [x1.now.2.2.1, mk_k5, nI_add, mj_u_eq, mj_up_eq]
    exact ⟨_, rfl, x1.n44 hk.1.t6, f1.u (by omega)⟩
  · obtain ⟨M1, e1, x1, f1⟩ := mk_Mkeep hN hw hM
    rw [em M hM, if_pos c1]
    unfold F_M_give_b42
    rw [mk_Mref1]
    simp only [Option.bind_some]
    rw [if_pos trivial, e1]
    simp only [Option.bind_some, mj_lt]
    rw [x1.now 44 (by omega), mk_k5, nI_add, mj_u_eq, mj_up_eq]
    exact ⟨_, rfl, x1.n, f1.u (by omega)⟩
