/-! ===== the pure side: questions ===== -/
section Asks
variable {N : Nat} {S : mk_S} {A : mk_L} {M : mj_M}
theorem mk_X.q (hX : mk_X S A M) {M' : mj_M} (f : ∀ c, c ≠ 9 → c ≠ 12 → M' c = M c) : mk_X S A M' ∧ mk_fx M M' :=
  ⟨hX.sc fun c hc => f c (by unfold mk_sx at hc; omega) (by unfold mk_sx at hc; omega), fun c hc => f c (by omega) (by omega)⟩
theorem mk_M.q (hM : mk_M S A M) {M' : mj_M} (f : ∀ c, c ≠ 57 → c ≠ 58 → M' c = M c) : mk_M S A M' ∧ mk_fm M M' :=
  ⟨hM.sc fun c j hc => congrFun (f c (by unfold mk_sm at hc; omega) (by unfold mk_sm at hc; omega)) j, fun c hc => f c (by omega) (by omega)⟩
/-- bits by a test -/
def mk_bits (p : Nat → Bool) : Nat → Nat
  | 0 => 0
  | n + 1 => if p n then mk_bits p n ||| 2 ^ n else mk_bits p n
theorem mk_bits64 (p : Nat → Bool) : ∀ n, n ≤ 6 → mk_bits p n < 64
  | 0, _ => by simp [mk_bits]
  | n + 1, hn => by
    have := mk_bits64 p n (by omega)
    unfold mk_bits
    split
    · exact mk_or6 this (by omega)
    · exact this
theorem mk_Xnow' (hN : 1000 ≤ N) (hw : mk_W S A) (hX : mk_X S A M) {h t : Nat} (hh : h < S 48 25) (ht : t < S 48 26) : ∃ M', F_Stays_now N (nI h) (nI t) M = some (nI (mk_now S A h t), M') ∧ mk_X S A M' ∧ mk_fx M M' := by
  obtain ⟨M', e, f⟩ := mk_Xnow hN hw hX hh ht
  exact ⟨M', e, hX.q f⟩
theorem mk_Mnow' (hN : 1000 ≤ N) (hw : mk_W S A) (hM : mk_M S A M) {h t : Nat} (hh : h < S 48 25) (ht : t < S 48 26) : ∃ M', F_M_nightsNow N (nI h) (nI t) M = some (nI (mk_now S A h t), M') ∧ mk_M S A M' ∧ mk_fm M M' := by
  obtain ⟨M', e, f⟩ := mk_Mnow hN hw hM hh ht
  exact ⟨M', e, hM.q f⟩
theorem mk_now20 (S : mk_S) (A : mk_L) (h t : Nat) : mk_now S A h t ≤ 20 := mk_by20 ..
/-- where -/
theorem mk_Xwhere (hN : 1000 ≤ N) (hw : mk_W S A) {t v : Nat} (ht : t < S 48 26) (hv : v ≤ 20) : ∀ d i n M, i + d = S 48 25 → d < n → mk_X S A M → ∃ M', F_W_where_b29 N n (nI t) (nI v) (nI (mk_bits (fun h => decide (v ≤ mk_now S A h t)) i)) (nI i) M = some (nI (mk_bits (fun h => decide (v ≤ mk_now S A h t)) (S 48 25)), M') ∧ mk_X S A M' ∧ mk_fx M M' := by
  have h6 := hw.h6
  intro d
  induction d with
  | zero =>
    intro i n M hi hn hX
    obtain ⟨n, rfl⟩ : ∃ k, n = k + 1 := ⟨n - 1, by omega⟩
    have : i = S 48 25 := by omega
    subst this
    refine ⟨M, ?_, hX, mk_fx.rf⟩
    rw [F_W_where_b29, hX.hs, if_pos (Int32.le_refl _)]
  | succ d ih =>
    intro i n M hi hn hX
    obtain ⟨n, rfl⟩ : ∃ k, n = k + 1 := ⟨n - 1, by omega⟩
    obtain ⟨M1, e1, x1, f1⟩ := mk_Xnow' hN hw hX (show i < S 48 25 by omega) ht
    obtain ⟨M2, e2, x2, f2⟩ := ih (i + 1) n M1 (by omega) (by omega) x1
    refine ⟨M2, ?_, x2, f1.tr f2⟩
    have h20 := mk_now20 S A i t
    rw [F_W_where_b29, hX.hs, if_neg (nI_ge (by omega) (by omega)), e1]
    simp (disch := omega) only [nl_0, nl_1, nl_2, nl_3, nl_4, nl_5, nl_6, nl_7, nl_8, nl_9, nl_10, nl_11, nl_12, nl_13, nl_14, nl_20, nl_24, nl_31, nl_32, nl_33, nl_36, nl_38, nl_39, nl_40, nl_41, nl_42, nl_43, nl_44, nl_45, nl_46, nl_47, nl_48, nl_49, nl_50, nl_52, nl_57, nl_58, nl_59, nl_60, nl_61, nl_62, nl_63, nl_91, nl_93, nl_97, nl_98, nl_99, nl_100, nl_104, nl_107, nl_108, nl_109, nl_110, nl_111, nl_114, nl_115, nl_116, nl_119, nl_121, nl_124, nl_127, nl_140, nl_229, nl_240, nl_255, nl_520, nl_999, nl_1000, nl_9999, nI_add, pk_mul, nw_ck, nI_clamp, nw_le, nw_lt, nw_eq, nw_eqm, nw_meq, nw_ltm, nw_mlt, nw_mle, nw_lem, Option.bind_some, mj_lt]
    rw [nw_shl (by omega), nw_or]
    rw [mk_bits] at e2
    by_cases c : v ≤ mk_now S A i t
    · rw [if_pos (decide_eq_true c)] at e2
      rw [if_neg (by omega), e2]
    · rw [if_neg (by simp [c])] at e2
      rw [if_pos (by omega), e2]
theorem mk_Mwhere (hN : 1000 ≤ N) (hw : mk_W S A) {t v : Nat} (ht : t < S 48 26) (hv : v ≤ 20) : ∀ d i n M, i + d = S 48 25 → d < n → mk_M S A M → ∃ M', F_M_whereOf_b5 N n (nI t) (nI v) (nI (mk_bits (fun h => decide (v ≤ mk_now S A h t)) i)) (nI i) M = some (nI (mk_bits (fun h => decide (v ≤ mk_now S A h t)) (S 48 25)), M') ∧ mk_M S A M' ∧ mk_fm M M' := by
  have h6 := hw.h6
  intro d
  induction d with
  | zero =>
    intro i n M hi hn hX
    obtain ⟨n, rfl⟩ : ∃ k, n = k + 1 := ⟨n - 1, by omega⟩
    have : i = S 48 25 := by omega
    subst this
    refine ⟨M, ?_, hX, mk_fm.rf⟩
    rw [F_M_whereOf_b5, hX.hs, if_pos (Int32.le_refl _)]
  | succ d ih =>
    intro i n M hi hn hX
    obtain ⟨n, rfl⟩ : ∃ k, n = k + 1 := ⟨n - 1, by omega⟩
    obtain ⟨M1, e1, x1, f1⟩ := mk_Mnow' hN hw hX (show i < S 48 25 by omega) ht
    obtain ⟨M2, e2, x2, f2⟩ := ih (i + 1) n M1 (by omega) (by omega) x1
    refine ⟨M2, ?_, x2, f1.tr f2⟩
    have h20 := mk_now20 S A i t
    rw [F_M_whereOf_b5, hX.hs, if_neg (nI_ge (by omega) (by omega)), e1]
    simp (disch := omega) only [nl_0, nl_1, nl_2, nl_3, nl_4, nl_5, nl_6, nl_7, nl_8, nl_9, nl_10, nl_11, nl_12, nl_13, nl_14, nl_20, nl_24, nl_31, nl_32, nl_33, nl_36, nl_38, nl_39, nl_40, nl_41, nl_42, nl_43, nl_44, nl_45, nl_46, nl_47, nl_48, nl_49, nl_50, nl_52, nl_57, nl_58, nl_59, nl_60, nl_61, nl_62, nl_63, nl_91, nl_93, nl_97, nl_98, nl_99, nl_100, nl_104, nl_107, nl_108, nl_109, nl_110, nl_111, nl_114, nl_115, nl_116, nl_119, nl_121, nl_124, nl_127, nl_140, nl_229, nl_240, nl_255, nl_520, nl_999, nl_1000, nl_9999, nI_add, pk_mul, nw_ck, nI_clamp, nw_le, nw_lt, nw_eq, nw_eqm, nw_meq, nw_ltm, nw_mlt, nw_mle, nw_lem, Option.bind_some, mj_lt]
    rw [nw_shl (by omega), nw_or, nw_or, Nat.or_zero]
    rw [mk_bits] at e2
    by_cases c : v ≤ mk_now S A i t
    · rw [if_pos (decide_eq_true c)] at e2
      rw [if_neg (by omega), e2]
    · rw [if_neg (by simp [c])] at e2
      rw [if_pos (by omega), e2]
def mk_wh (S : mk_S) (A : mk_L) (t v : Nat) : Nat := mk_bits (fun h => decide (v ≤ mk_now S A h t)) (S 48 25)
theorem mk_MwhereOf (hN : 1000 ≤ N) (hw : mk_W S A) {t v : Nat} (ht : t < S 48 26) (hv : v ≤ 20) (hM : mk_M S A M) : ∃ M', F_M_whereOf N (nI t) (nI v) M = some (nI (mk_wh S A t v), M') ∧ mk_M S A M' ∧ mk_fm M M' := by
  have h6 := hw.h6
  exact mk_Mwhere hN hw ht hv (S 48 25) 0 N M (by omega) (by omega) hM
end Asks
theorem op_33 {N : Nat} (hN : 1000 ≤ N) : mo_33 N mk_I := by
  intro M ⟨S, A, hw, hX, hM⟩ a b
  have h6 := hw.h6
  have t6 := hw.t6
  rcases mk_ix a (n := S 48 26) (by omega) with h | ⟨t, ht, rfl⟩
  · refine mk_fin (r := -1) hw hX hM (mk_QX.same fun M hX => ?_) (mk_QM.same fun M hM => ?_)
    · unfold F_W_where; rw [mk_Xt0 hX h]; rfl
    · unfold F_M_where; rw [mk_Mt0 hM hw h]; rfl
  have no : b < nI 1 ∨ nI (20 + 1) ≤ b → ∃ r M1 M2, F_W_where N (nI t) b M = some (r, M1) ∧ F_M_where N (nI t) b M1 = some (r, M2) ∧ mk_I M2 := by
    intro h'
    refine mk_fin (r := -1) hw hX hM (mk_QX.same fun M hX => ?_) (mk_QM.same fun M hM => ?_)
    · unfold F_W_where
      rw [mk_Xt1 hX hw ht]
      simp only [Option.bind_some]
      rw [if_neg (by decide +kernel)]
      by_cases c : b < 1
      · rw [if_pos c]
      · rw [if_neg c, nl_20, if_neg (nw_gt (h'.resolve_left c) (by omega)).2.1]
    · unfold F_M_where
      rw [mk_Mt1 hM hw ht]
      simp only [Option.bind_some]
      rw [if_neg (by decide +kernel), nl_1, nl_20, mk_Mloo h' (by omega)]
      rfl
  rcases mk_ix b (n := 21) (by omega) with h' | ⟨v, hv, rfl⟩
  · refine no (h'.imp (fun k => ?_) id)
    have h1 := Int32.lt_iff_toInt_lt.mp k
    apply Int32.lt_iff_toInt_lt.mpr
    rw [nI_toInt (by omega)]
    rw [show (0 : Int32).toInt = 0 from rfl] at h1
    omega
  by_cases c0 : v = 0
  · subst c0
    exact no (Or.inl (by decide +kernel))
  refine mk_fin (r := nI (mk_wh S A t v)) hw hX hM (fun M hX => ?_) (fun M hM => ?_)
  · obtain ⟨M', e, x, f⟩ := mk_Xwhere hN hw ht (show v ≤ 20 by omega) (S 48 25) 0 N M (by omega) (by omega) hX
    refine ⟨M', ?_, x, f⟩
    unfold F_W_where
    rw [mk_Xt1 hX hw ht]
    simp only [Option.bind_some]
    rw [if_neg (by decide +kernel), nl_1, if_neg (nI_nlt (by omega) (by omega)), nl_20, if_pos (nI_le (by omega) (by omega))]
    exact e
  · obtain ⟨M', e, x, f⟩ := mk_MwhereOf hN hw ht (show v ≤ 20 by omega) hM
    refine ⟨M', ?_, x, f⟩
    unfold F_M_where
    rw [mk_Mt1 hM hw ht]
    simp only [Option.bind_some]
    rw [if_neg (by decide +kernel), nl_1, nl_20, mk_Mlo (by omega) (by omega) (by omega)]
    simp only [Option.bind_some]
    rw [if_neg (by decide +kernel), e]
    rfl
theorem mk_H0 {S : mk_S} {A : mk_L} {M : mj_M} (hM : mk_M S A M) (h : S 48 25 = 0) : M 48 25 = 0 := by rw [hM.hs, h]; rfl
theorem mk_H1 {S : mk_S} {A : mk_L} {M : mj_M} (hM : mk_M S A M) (hw : mk_W S A) (h : ¬ S 48 25 = 0) : ¬ M 48 25 = 0 := by
  have := hw.h6
  rw [hM.hs]
  exact nI_ne0 (by omega) (by omega)
theorem op_30 {N : Nat} (hN : 1000 ≤ N) : mo_30 N mk_I := by
  intro M ⟨S, A, hw, hX, hM⟩
  have h6 := hw.h6
  by_cases c : S 48 25 = 0
  · refine mk_fin (r := -1) hw hX hM (mk_QX.same fun M hX => ?_) (mk_QM.same fun M hM => ?_)
    · unfold F_W_reach; rw [mk_Xtold0 hX c]; rfl
    · unfold F_M_reach; rw [if_pos (mk_H0 hM c)]
  have hb := hw.now.2.2.2.1
  have h42 := hw.now.2.1
  refine mk_fin (r := nI (mk_bits (fun h => decide (nw_d h (S 65 42) ≤ S 65 44)) (S 48 25))) hw hX hM (mk_QX.same fun M hX => ?_) (mk_QM.same fun M hM => ?_)
  · have key : ∀ d i n, i + d = S 48 25 → d < n → F_W_reach_b16 N n (nI (mk_bits (fun h => decide (nw_d h (S 65 42) ≤ S 65 44)) i)) (nI i) M = some (nI (mk_bits (fun h => decide (nw_d h (S 65 42) ≤ S 65 44)) (S 48 25)), M) := by
      intro d
      induction d with
      | zero =>
        intro i n hi hn
        obtain ⟨n, rfl⟩ : ∃ k, n = k + 1 := ⟨n - 1, by omega⟩
        have : i = S 48 25 := by omega
        subst this
        rw [F_W_reach_b16, hX.hs, if_pos (Int32.le_refl _)]
      | succ d ih =>
        intro i n hi hn
        obtain ⟨n, rfl⟩ : ∃ k, n = k + 1 := ⟨n - 1, by omega⟩
        have e2 := ih (i + 1) n (by omega) (by omega)
        have hd : nw_d i (S 65 42) < 20 := by unfold nw_d; omega
        rw [F_W_reach_b16, hX.hs, if_neg (nI_ge (by omega) (by omega)), mk_Xfar hX hw (by omega)]
        simp only [Option.bind_some]
        rw [hX.now.2.2.1]
        simp (disch := omega) only [nl_0, nl_1, nl_2, nl_3, nl_4, nl_5, nl_6, nl_7, nl_8, nl_9, nl_10, nl_11, nl_12, nl_13, nl_14, nl_20, nl_24, nl_31, nl_32, nl_33, nl_36, nl_38, nl_39, nl_40, nl_41, nl_42, nl_43, nl_44, nl_45, nl_46, nl_47, nl_48, nl_49, nl_50, nl_52, nl_57, nl_58, nl_59, nl_60, nl_61, nl_62, nl_63, nl_91, nl_93, nl_97, nl_98, nl_99, nl_100, nl_104, nl_107, nl_108, nl_109, nl_110, nl_111, nl_114, nl_115, nl_116, nl_119, nl_121, nl_124, nl_127, nl_140, nl_229, nl_240, nl_255, nl_520, nl_999, nl_1000, nl_9999, nI_add, pk_mul, nw_ck, nI_clamp, nw_le, nw_lt, nw_eq, nw_eqm, nw_meq, nw_ltm, nw_mlt, nw_mle, nw_lem, Option.bind_some, mj_lt]
        rw [nw_shl (by omega), nw_or]
        rw [mk_bits] at e2
        by_cases c : nw_d i (S 65 42) ≤ S 65 44
        · rw [if_pos (decide_eq_true c)] at e2
          rw [if_neg (by omega), e2]
        · rw [if_neg (by simp [c])] at e2
          rw [if_pos (by omega), e2]
    unfold F_W_reach
    rw [mk_Xtold1 hX hw (by omega)]
    simp only [Option.bind_some]
    rw [if_neg (by decide +kernel)]
    exact key (S 48 25) 0 N (by omega) (by omega)
  · have key : ∀ d i n, i + d = S 48 25 → d < n → F_M_reach_b13 N n (nI (mk_bits (fun h => decide (nw_d h (S 65 42) ≤ S 65 44)) i)) (nI i) M = some (nI (mk_bits (fun h => decide (nw_d h (S 65 42) ≤ S 65 44)) (S 48 25)), M) := by
      intro d
      induction d with
      | zero =>
        intro i n hi hn
        obtain ⟨n, rfl⟩ : ∃ k, n = k + 1 := ⟨n - 1, by omega⟩
        have : i = S 48 25 := by omega
        subst this
        rw [F_M_reach_b13, hM.hs, if_pos (Int32.le_refl _)]
      | succ d ih =>
        intro i n hi hn
        obtain ⟨n, rfl⟩ : ∃ k, n = k + 1 := ⟨n - 1, by omega⟩
        have e2 := ih (i + 1) n (by omega) (by omega)
        have hd : nw_d i (S 65 42) < 20 := by unfold nw_d; omega
        rw [F_M_reach_b13, hM.hs, if_neg (nI_ge (by omega) (by omega)), mk_Mfar hM hw (by omega)]
        simp only [Option.bind_some]
        rw [hM.now 44 (by omega)]
        simp (disch := omega) only [nl_0, nl_1, nl_2, nl_3, nl_4, nl_5, nl_6, nl_7, nl_8, nl_9, nl_10, nl_11, nl_12, nl_13, nl_14, nl_20, nl_24, nl_31, nl_32, nl_33, nl_36, nl_38, nl_39, nl_40, nl_41, nl_42, nl_43, nl_44, nl_45, nl_46, nl_47, nl_48, nl_49, nl_50, nl_52, nl_57, nl_58, nl_59, nl_60, nl_61, nl_62, nl_63, nl_91, nl_93, nl_97, nl_98, nl_99, nl_100, nl_104, nl_107, nl_108, nl_109, nl_110, nl_111, nl_114, nl_115, nl_116, nl_119, nl_121, nl_124, nl_127, nl_140, nl_229, nl_240, nl_255, nl_520, nl_999, nl_1000, nl_9999, nI_add, pk_mul, nw_ck, nI_clamp, nw_le, nw_lt, nw_eq, nw_eqm, nw_meq, nw_ltm, nw_mlt, nw_mle, nw_lem, Option.bind_some, mj_lt]
        rw [nw_shl (by omega), nw_or, nw_or, Nat.or_zero]
        rw [mk_bits] at e2
        by_cases c : nw_d i (S 65 42) ≤ S 65 44
        · rw [if_pos (decide_eq_true c)] at e2
          rw [if_neg (by omega), e2]
        · rw [if_neg (by simp [c])] at e2
          rw [if_pos (by omega), e2]
    unfold F_M_reach
    rw [if_neg (mk_H1 hM hw c)]
    exact key (S 48 25) 0 N (by omega) (by omega)
/-- all tales' lengths -/
def mk_sl (S : mk_S) : Nat → Nat
  | 0 => 0
  | t + 1 => mk_sl S t + S 64 (3 * t)
theorem mk_sl_in {S : mk_S} {A : mk_L} (hw : mk_W S A) : ∀ n, n ≤ S 48 26 → n ≤ mk_sl S n ∧ mk_sl S n ≤ 9 * n
  | 0, _ => by simp [mk_sl]
  | n + 1, h => by
    have := mk_sl_in hw n (by omega)
    have := hw.tale n (by omega)
    rw [mk_sl]
    omega
theorem op_31 {N : Nat} (hN : 1000 ≤ N) : mo_31 N mk_I := by
  intro M ⟨S, A, hw, hX, hM⟩ a b
  have t6 := hw.t6
  rcases mk_ix a (n := S 48 26) (by omega) with h | ⟨t, ht, rfl⟩
  · refine mk_fin (r := -1) hw hX hM (mk_QX.same fun M hX => ?_) (mk_QM.same fun M hM => ?_)
    · unfold F_W_shares; rw [mk_Xt0 hX h]; rfl
    · unfold F_M_shares; rw [mk_Mt0 hM hw h]; rfl
  rcases mk_ix b (n := 1000) (by omega) with h' | ⟨c, hc, rfl⟩
  · refine mk_fin (r := -1) hw hX hM (mk_QX.same fun M hX => ?_) (mk_QM.same fun M hM => ?_)
    · unfold F_W_shares
      rw [mk_Xt1 hX hw ht]
      simp only [Option.bind_some]
      rw [if_neg (by decide +kernel)]
      by_cases c : b < 0
      · rw [if_pos c]
      · rw [if_neg c, nl_999, if_neg (nw_gt (h'.resolve_left c) (by omega)).2.1]
    · unfold F_M_shares
      rw [mk_Mt1 hM hw ht]
      simp only [Option.bind_some]
      rw [if_neg (by decide +kernel), nl_0, nl_999, mk_Mino h' (by omega)]
      rfl
  have hall := mk_sl_in hw (S 48 26) (by omega)
  refine mk_fin (r := nI c * nI (S 64 (3 * t)) / nI (mk_sl S (S 48 26))) hw hX hM (mk_QX.same fun M hX => ?_) (mk_QM.same fun M hM => ?_)
  · have key : ∀ d i n, i + d = S 48 26 → d < n → F_W_shares_b29 N n (nI t) (nI c) (nI (mk_sl S i)) (nI i) M = some (nI c * nI (S 64 (3 * t)) / nI (mk_sl S (S 48 26)), M) := by
      intro d
      induction d with
      | zero =>
        intro i n hi hn
        obtain ⟨n, rfl⟩ : ∃ k, n = k + 1 := ⟨n - 1, by omega⟩
        have : i = S 48 26 := by omega
        subst this
        rw [F_W_shares_b29, hX.ts, if_pos (Int32.le_refl _), if_neg (nI_nle (by omega) (by omega)), nw_ck (by omega) (by omega), if_neg (nI_ne0 (by omega) (by omega)), nI_clamp (by omega), hX.len t ht]
      | succ d ih =>
        intro i n hi hn
        obtain ⟨n, rfl⟩ : ∃ k, n = k + 1 := ⟨n - 1, by omega⟩
        rw [F_W_shares_b29, hX.ts, if_neg (nI_ge (by omega) (by omega)), nw_ck (by omega) (by omega), nI_clamp (by omega), hX.len i (by omega)]
        simp only [mj_lt]
        rw [nI_add, nI_1]
        exact ih (i + 1) n (by omega) (by omega)
    unfold F_W_shares
    rw [mk_Xt1 hX hw ht]
    simp only [Option.bind_some]
    rw [if_neg (by decide +kernel), if_neg (nI_pos (by omega)), nl_999, if_pos (nI_le (by omega) (by omega))]
    exact key (S 48 26) 0 N (by omega) (by omega)
  · have key : ∀ d i n, i + d = S 48 26 → d < n → F_M_shares_b26 N n (nI t) (nI c) (nI (mk_sl S i)) (nI i) M = some (nI c * nI (S 64 (3 * t)) / nI (mk_sl S (S 48 26)), M) := by
      intro d
      induction d with
      | zero =>
        intro i n hi hn
        obtain ⟨n, rfl⟩ : ∃ k, n = k + 1 := ⟨n - 1, by omega⟩
        have : i = S 48 26 := by omega
        subst this
        rw [F_M_shares_b26, hM.ts, if_pos (Int32.le_refl _), nl_0, mk_ofTale hM hw ht (by omega)]
        simp only [Option.bind_some]
        rw [if_neg (show ¬ nI (mk_sl S (S 48 26)) = nI 0 by rw [nw_eq (by omega) (by omega)]; omega), Nat.add_zero]
      | succ d ih =>
        intro i n hi hn
        obtain ⟨n, rfl⟩ : ∃ k, n = k + 1 := ⟨n - 1, by omega⟩
        rw [F_M_shares_b26, hM.ts, if_neg (nI_ge (by omega) (by omega)), nl_0, mk_ofTale hM hw (by omega) (by omega)]
        simp only [Option.bind_some, mj_lt]
        rw [nI_add, nI_1, Nat.add_zero]
        exact ih (i + 1) n (by omega) (by omega)
    unfold F_M_shares
    rw [mk_Mt1 hM hw ht]
    simp only [Option.bind_some]
    rw [if_neg (by decide +kernel), nl_0, nl_999, mk_Mini (by omega) (by omega)]
    simp only [Option.bind_some]
    rw [if_neg (by decide +kernel)]
    exact key (S 48 26) 0 N (by omega) (by omega)
/-- what is left of a part, night by night -/
def mk_od (c p : Nat) : Nat → Nat
  | 0 => p
  | k + 1 => mk_od c (p - p * c / 100) k
theorem op_29 {N : Nat} (hN : 1000 ≤ N) : mo_29 N mk_I := by
  intro M ⟨S, A, hw, hX, hM⟩ a b c v
  have h6 := hw.h6
  have t6 := hw.t6
  rcases mk_ix a (n := S 48 25) (by omega) with h | ⟨h, hh, rfl⟩
  · refine mk_fin (r := -1) hw hX hM (mk_QX.same fun M hX => ?_) (mk_QM.same fun M hM => ?_)
    · unfold F_W_odds; rw [mk_Xb0 hX hw (Or.inl h)]; rfl
    · unfold F_M_odds; rw [mk_Mh0 hM hw h]; rfl
  rcases mk_ix b (n := S 48 26) (by omega) with h' | ⟨t, ht, rfl⟩
  · refine mk_fin (r := -1) hw hX hM (mk_QX.same fun M hX => ?_) (mk_QM.same fun M hM => ?_)
    · unfold F_W_odds; rw [mk_Xb0 hX hw (Or.inr h')]; rfl
    · unfold F_M_odds; rw [mk_Mh1 hM hw hh]
      simp only [Option.bind_some]
      rw [if_neg (by decide +kernel), mk_Mt0 hM hw h']; rfl
  rcases mk_ix c (n := 101) (by omega) with h' | ⟨c, hc, rfl⟩
  · refine mk_fin (r := -1) hw hX hM (mk_QX.same fun M hX => ?_) (mk_QM.same fun M hM => ?_)
    · unfold F_W_odds
      rw [mk_Xb1 hX hw hh ht]
      simp only [Option.bind_some]
      rw [if_neg (by decide +kernel)]
      by_cases d : c < 0
      · rw [if_pos d]
      · rw [if_neg d, nl_100, if_pos (nw_gt (h'.resolve_left d) (by omega)).1]
    · unfold F_M_odds
      rw [mk_Mh1 hM hw hh]
      simp only [Option.bind_some]
      rw [if_neg (by decide +kernel), mk_Mt1 hM hw ht]
      simp only [Option.bind_some]
      rw [if_neg (by decide +kernel), nl_0, nl_100, mk_Mino h' (by omega)]; rfl
  rcases mk_ix v (n := 21) (by omega) with h' | ⟨v, hv, rfl⟩
  · refine mk_fin (r := -1) hw hX hM (mk_QX.same fun M hX => ?_) (mk_QM.same fun M hM => ?_)
    · unfold F_W_odds
      rw [mk_Xb1 hX hw hh ht]
      simp only [Option.bind_some]
      rw [if_neg (by decide +kernel), if_neg (nI_pos (by omega)), nl_100, if_neg (nI_nlt (by omega) (by omega))]
      by_cases d : v < 0
      · rw [if_pos d]
      · rw [if_neg d, nl_20, if_neg (nw_gt (h'.resolve_left d) (by omega)).2.1]
    · unfold F_M_odds
      rw [mk_Mh1 hM hw hh]
      simp only [Option.bind_some]
      rw [if_neg (by decide +kernel), mk_Mt1 hM hw ht]
      simp only [Option.bind_some]
      rw [if_neg (by decide +kernel), nl_0, nl_100, mk_Mini (by omega) (by omega)]
      simp only [Option.bind_some]
      rw [if_neg (by decide +kernel), nl_20, mk_Mino h' (by omega)]; rfl
  have h20 := mk_now20 S A h t
  have hq : ∀ p, p * c / 100 ≤ p := fun p => by
    have : p * c ≤ p * 100 := Nat.mul_le_mul_left _ (by omega)
    omega
  have hp : ∀ p, p ≤ 1000000000 → p * c ≤ 100000000000 := fun p h => by
    have : p * c ≤ 1000000000 * 100 := Nat.mul_le_mul h (by omega)
    omega
  refine mk_fin (r := if v ≤ mk_now S A h t then nI (mk_od c 1000000000 (v - 1)) else 0) hw hX hM (fun M hX => ?_) (fun M hM => ?_)
  · obtain ⟨M', e, x, f⟩ := mk_Xnow' hN hw hX hh ht
    refine ⟨M', ?_, x, f⟩
    have key : ∀ d i p n, v - (i + 1) = d → d < n → p ≤ 1000000000 → i < 30 → F_W_odds_b60 N n (nI c) (nI v) (lN p) (nI (i + 2)) M' = some (nI (mk_od c p d), M') := by
      intro d
      induction d with
      | zero =>
        intro i p n hi hn _ _
        obtain ⟨n, rfl⟩ : ∃ k, n = k + 1 := ⟨n - 1, by omega⟩
        rw [F_W_odds_b60, if_pos (nI_lt (by omega) (by omega)), lN_i]
        rfl
      | succ d ih =>
        intro i p n hi hn h9 hi3
        obtain ⟨n, rfl⟩ : ∃ k, n = k + 1 := ⟨n - 1, by omega⟩
        have h1 := hq p
        have h2 := hp p h9
        rw [F_W_odds_b60, if_neg (nI_nlt (by omega) (by omega))]
        simp only [mj_lt]
        rw [nI_l (by omega), lN_mul, show (100 : Int64) = lN 100 from rfl, pk_lDiv (by omega) (by omega) (by omega), lN_sub h1, nI_1]
        exact ih (i + 1) _ n (by omega) (by omega) (by omega) (by omega)
    unfold F_W_odds
    rw [mk_Xb1 hX hw hh ht]
    simp only [Option.bind_some]
    rw [if_neg (by decide +kernel), if_neg (nI_pos (by omega)), nl_100, if_neg (nI_nlt (by omega) (by omega)), if_neg (nI_pos (by omega)), nl_20, if_pos (nI_le (by omega) (by omega)), e]
    simp only [Option.bind_some]
    simp (disch := omega) only [nw_le]
    split
    · exact key (v - 1) 0 1000000000 N (by omega) (by omega) (by omega) (by omega)
    · rfl
  · obtain ⟨M', e, x, f⟩ := mk_Mnow' hN hw hM hh ht
    refine ⟨M', ?_, x, f⟩
    have key : ∀ d i p n, v - (i + 1) = d → d < n → p ≤ 1000000000 → i < 30 → F_M_odds_b60 N n (nI c) (nI v) (nI p) (nI (i + 1)) M' = some (nI (mk_od c p d), M') := by
      intro d
      induction d with
      | zero =>
        intro i p n hi hn _ _
        obtain ⟨n, rfl⟩ : ∃ k, n = k + 1 := ⟨n - 1, by omega⟩
        rw [F_M_odds_b60, if_pos (nI_le (by omega) (by omega))]
        rfl
      | succ d ih =>
        intro i p n hi hn h9 hi3
        obtain ⟨n, rfl⟩ : ∃ k, n = k + 1 := ⟨n - 1, by omega⟩
        have h1 := hq p
        have h2 := hp p h9
        rw [F_M_odds_b60, if_neg (nI_ge (by omega) (by omega))]
        simp only [mj_lt]
        rw [nI_l (by omega), nI_l (by omega), lN_mul, show (100 : Int64) = lN 100 from rfl, pk_lDiv (by omega) (by omega) (by omega), lN_i, pk_sub h1, nI_1]
        exact ih (i + 1) _ n (by omega) (by omega) (by omega) (by omega)
    unfold F_M_odds
    rw [mk_Mh1 hM hw hh]
    simp only [Option.bind_some]
    rw [if_neg (by decide +kernel), mk_Mt1 hM hw ht]
    simp only [Option.bind_some]
    rw [if_neg (by decide +kernel), nl_0, nl_100, mk_Mini (by omega) (by omega)]
    simp only [Option.bind_some]
    rw [if_neg (by decide +kernel), nl_20, mk_Mini (by omega) (by omega)]
    simp only [Option.bind_some]
    rw [if_neg (by decide +kernel), e]
    simp only [Option.bind_some]
    simp (disch := omega) only [nw_le]
    split
    · exact key (v - 1) 0 1000000000 N (by omega) (by omega) (by omega) (by omega)
    · rfl
