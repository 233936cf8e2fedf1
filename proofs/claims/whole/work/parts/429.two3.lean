/-! ===== the pure side: two, at its end ===== -/
section Two3
variable {N : Nat} {S : mk_S} {A : mk_L}
theorem mk_now_gw2 {R : mk_S} {h x t : Nat} (hx : x < 6) (ht : t < 6) : mk_now (mk_gw2 R h) A x t = mk_now R A x t := by
  unfold mk_now
  rw [mk_by_cg (S := R) (fun c hc => mk_gw2_o hc), mk_gw2_k (by omega) (by omega), mk_gw2_k (by omega) (by omega)]
/-- the state behind a first telling -/
def mk_R1 (S : mk_S) (A : mk_L) (h t : Nat) : mk_S := mk_t4 (mk_gw2 S h) t (mk_now S A h t)
theorem mk_R1_o {h t c : Nat} (hc : c ≠ 65) : mk_R1 S A h t c = S c := by unfold mk_R1; rw [mk_t4_o hc, mk_gw2_o hc]
theorem mk_R1_k {h t k : Nat} (hh : h < 6) (ht : t < 6) (h1 : k ≠ h * 6 + t) (h2 : k ≠ 42) (h3 : k ≠ 44) (h4 : k ≠ 46) (h5 : k ≠ 47) : mk_R1 S A h t 65 k = S 65 k := by
  unfold mk_R1
  rw [mk_t4_k (by rw [mk_gw2_42]; exact h1) h4 h3 h5, mk_gw2_k h2 h3]
theorem mk_R1_42 {h t : Nat} (hh : h < 6) (ht : t < 6) : mk_R1 S A h t 65 42 = h := by
  unfold mk_R1
  rw [mk_t4_k (by rw [mk_gw2_42]; omega) (by omega) (by omega) (by omega), mk_gw2_42]
theorem mk_R1_44 {h t : Nat} : mk_R1 S A h t 65 44 = mk_br S A h t := by
  unfold mk_R1 mk_t4 mk_br
  simp only [mk_u5]
  rw [mj_up_ne _ _ _ (by omega), mj_up_eq, mk_gw2_44]
theorem mk_R1_c {h t : Nat} (hh : h < 6) (ht : t < 6) : mk_R1 S A h t 65 (h * 6 + t) = min (S 65 (h * 6 + t) + 1) 99 := by
  unfold mk_R1 mk_t4
  simp only [mk_u5]
  rw [mk_gw2_42, mj_up_ne _ _ _ (by omega), mj_up_ne _ _ _ (by omega), mj_up_ne _ _ _ (by omega), mj_up_eq, mk_gw2_k (by omega) (by omega)]
theorem mk_n2_x {h t h2 t2 : Nat} (hh : h < 6) (ht : t < 6) (hh2 : h2 < 6) (ht2 : t2 < 6) : mk_now (mk_gw2 (mk_R1 S A h t) h2) A h2 t2 = mk_n2 S A h t h2 t2 := by
  rw [mk_now_gw2 hh2 ht2]
  unfold mk_n2
  by_cases c : h2 = h ∧ t2 = t
  · rw [if_pos c, c.1, c.2]
    unfold mk_now mk_once
    rw [mk_by_cg (S := S) (fun c hc => mk_R1_o hc), mk_R1_c hh ht, mk_R1_k hh ht (by omega) (by omega) (by omega) (by omega) (by omega)]
  · rw [if_neg c]
    unfold mk_now
    rw [mk_by_cg (S := S) (fun c hc => mk_R1_o hc), mk_R1_k hh ht (by omega) (by omega) (by omega) (by omega) (by omega), mk_R1_k hh ht (by omega) (by omega) (by omega) (by omega) (by omega)]
theorem mk_M35 {R : mk_S} {M M' : mj_M} (hM : mk_M R A M) (h1 : ∀ c, c ≠ 48 → M' c = M c) (h2 : ∀ k, k ≠ 35 → k ≠ 36 → M' 48 k = M 48 k) : mk_M R A M' := hM.sc (fun c j hc => by
  by_cases d : c = 48
  · subst d
    exact h2 j (by unfold mk_sm at hc; omega) (by unfold mk_sm at hc; omega)
  · rw [h1 c d])
theorem mk_Mtwo2 (hN : 10000 ≤ N) (hw : mk_W S A) (h0 : 0 < S 48 25) (hT : 0 < S 48 26) {M0 : mj_M} {h t m : Nat} (hh : h < S 48 25) (ht : t < S 48 26) {o : Option (Nat × Nat)} {M : mj_M} (hM : mk_M (mk_R1 S A h t) A M) (hw1 : mk_W (mk_R1 S A h t) A) (hb : mk_bm o M) (hob : mk_ob 10000 o) (hf : mk_fm M0 M) (ha : ∀ k, k < 48 → M 68 k = nI (S 65 k)) : ∃ M', F_M_tryTwo N (m + 2) (nI 1) (nI (10 * h + t)) (nI (mk_now S A h t)) M = some M' ∧ mk_M (mk_R1 S A h t) A M' ∧ mk_bm (mk_f2 S A h t o) M' ∧ mk_ob 10000 (mk_f2 S A h t o) ∧ mk_fm M0 M' ∧ (∀ k, k < 48 → M' 68 k = nI (S 65 k)) := by
  have h6 := hw.h6
  have t6 := hw.t6
  have e48 : mk_R1 S A h t 48 = S 48 := mk_R1_o (by omega)
  have e43 : mk_R1 S A h t 65 43 = S 65 43 := mk_R1_k (by omega) (by omega) (by omega) (by omega) (by omega) (by omega) (by omega)
  have e42 : mk_R1 S A h t 65 42 = h := mk_R1_42 (by omega) (by omega)
  have e44 : mk_R1 S A h t 65 44 = mk_br S A h t := mk_R1_44
  have n1 := mk_now20 S A h t
  obtain ⟨M1, e1, f1, a1, b1⟩ := mk_Mpa (N := N) (by omega) hM (e := 1) (by omega)
  have x1 : mk_M (mk_R1 S A h t) A M1 := hM.sc (fun c j hc => by rw [f1 c (by rintro rfl; exact hc (by unfold mk_sm; omega))])
  have key := mk_Mb40 hN hw1 (by rw [e48]; exact h0) (by rw [e48]; exact hT) (e := 1) (row := 10 * h + t) (nts := mk_now S A h t) (by omega) (F_M_tryTwo N (m + 1)) (fun h2 t2 o => mk_h2 S A h t h2 t2 o) (fun M => mk_fm M0 M ∧ ∀ k, k < 48 → M 68 k = nI (S 65 k))
    (fun M M' p f => ⟨fun c hc => by rw [f c (by omega) (by omega) (by omega)]; exact p.1 c hc, fun k hk => by rw [f 68 (by omega) (by omega) (by omega)]; exact p.2 k hk⟩)
    (fun h2 t2 o hc => by
      rw [e43, e44, e42] at hc
      unfold mk_h2
      rcases hc with hc | hc
      · rw [if_pos hc]
      · rw [if_pos hc]; split <;> rfl)
    (fun h2 t2 o M hh2 ht2 c d hM hb hob p a => by
      rw [e48] at hh2 ht2
      rw [e43] at c
      rw [e44, e42] at d
      have en := mk_n2_x (S := S) (A := A) (h := h) (t := t) (h2 := h2) (t2 := t2) (by omega) (by omega) (by omega) (by omega)
      have n2 : mk_n2 S A h t h2 t2 ≤ 20 := by rw [← en]; exact mk_now20 ..
      rw [en] at hM ⊢
      obtain ⟨M', e', b', f', g'⟩ := mk_Mc2 (row := 100 * (10 * h + t) + 10 * h2 + t2) (sum := mk_now S A h t + mk_n2 S A h t h2 t2) (by omega) hb hob (by omega) (by omega) (F_M_tryTwo N (m + 1) (nI (1 + 1)) (nI (100 * (10 * h + t) + 10 * h2 + t2)) (nI (mk_now S A h t + mk_n2 S A h t h2 t2)) M) (by
        rw [F_M_tryTwo]
        unfold F_M_tryTwo_body
        rw [if_pos (by decide +kernel)])
      have eg : mk_h2 S A h t h2 t2 o = mk_c2 (100 * (10 * h + t) + 10 * h2 + t2) (mk_now S A h t + mk_n2 S A h t h2 t2) o := by
        unfold mk_h2
        rw [if_neg c, if_neg d, show 1000 * h + 100 * t + 10 * h2 + t2 = 100 * (10 * h + t) + 10 * h2 + t2 by omega]
      rw [eg]
      refine ⟨M', _, e', mk_M35 hM f' g', fun c hc => by rw [mk_t4_o hc, mk_gw2_o hc], fun k hk => ?_, b', mk_c2_ob hob (by omega) (by omega), ⟨fun c hc => by rw [f' c (by omega)]; exact p.1 c hc, fun k hk => by rw [f' 68 (by omega)]; exact p.2 k hk⟩, fun k hk => by rw [f' 68 (by omega)]; exact a k hk⟩
      rw [mk_t4_k (by rw [mk_gw2_42]; omega) (by omega) (by omega) (by omega), mk_gw2_k (by omega) (by omega)])
    o M1 x1 ⟨by rw [f1 48 (by omega)]; exact hb.1, fun q hq => by rw [f1 48 (by omega)]; exact hb.2 q hq⟩ hob ⟨fun c hc => by rw [f1 c (by omega)]; exact hf c hc, fun k hk => by rw [b1 k (by omega)]; exact ha k hk⟩ a1
  obtain ⟨M', e', x', b', o', p', -⟩ := key
  rw [e48] at b' o'
  refine ⟨M', ?_, x', b', o', p'.1, p'.2⟩
  rw [show m + 2 = m + 1 + 1 from rfl, F_M_tryTwo]
  unfold F_M_tryTwo_body
  rw [if_neg (by decide +kernel), e1]
  simp only [mk_bs]
  exact e'
theorem mk_Mtwo (hN : 10000 ≤ N) (hw : mk_W S A) (h0 : 0 < S 48 25) (hT : 0 < S 48 26) {M : mj_M} (hM : mk_M S A M) (hb : mk_bm none M) : ∃ M', F_M_tryTwo N 10 0 0 0 M = some M' ∧ mk_M S A M' ∧ mk_bm (mk_f1 S A) M' ∧ mk_ob 10000 (mk_f1 S A) ∧ mk_fm M M' := by
  have h6 := hw.h6
  have t6 := hw.t6
  obtain ⟨M1, e1, f1, a1, b1⟩ := mk_Mpa (N := N) (by omega) hM (e := 0) (by omega)
  have x1 : mk_M S A M1 := hM.sc (fun c j hc => by rw [f1 c (by rintro rfl; exact hc (by unfold mk_sm; omega))])
  have key := mk_Mb40 hN hw h0 hT (e := 0) (row := 0) (nts := 0) (by omega) (F_M_tryTwo N 9) (fun h t o => mk_h1 S A h t o) (fun M' => mk_fm M M')
    (fun M M' p f c hc => by rw [f c (by omega) (by omega) (by omega)]; exact p c hc)
    (fun h t o hc => by
      unfold mk_h1
      rcases hc with hc | hc
      · rw [if_pos hc]
      · rw [if_pos hc]; split <;> rfl)
    (fun h t o M2 hh ht c d hM2 hb2 hob p a => by
      have hd : nw_d h (S 65 42) ≤ S 65 44 := by omega
      have en := mk_now_gw2 (R := S) (A := A) (h := h) (x := h) (t := t) (by omega) (by omega)
      have hw1 : mk_W (mk_R1 S A h t) A := by
        have := mk_Wt4 (n := mk_now S A h t) (mk_Wgw2 hw hh) (t := t) (by rw [mk_gw2_o (by omega)]; exact h0) (by rw [mk_gw2_o (by omega)]; exact ht)
        exact this
      rw [en] at hM2 ⊢
      obtain ⟨M3, e3, x3, b3, o3, f3, a3⟩ := mk_Mtwo2 (m := 7) (M0 := M) hN hw h0 hT hh ht hM2 hw1 hb2 hob p (fun k hk => by have := a k hk; rw [show 48 * 0 + k = k by omega] at this; exact this)
      have eg : mk_h1 S A h t o = mk_f2 S A h t o := by unfold mk_h1; rw [if_neg c, if_neg d]
      rw [eg]
      refine ⟨M3, mk_R1 S A h t, ?_, x3, fun c hc => mk_R1_o hc, fun k hk => mk_R1_k (by omega) (by omega) (by omega) (by omega) (by omega) (by omega) (by omega), b3, o3, f3, fun k hk => by rw [show 48 * 0 + k = k by omega]; exact a3 k hk⟩
      rw [show 100 * 0 + 10 * h + t = 10 * h + t by omega, show 0 + mk_now S A h t = mk_now S A h t by omega]
      exact e3)
    none M1 x1 ⟨by rw [f1 48 (by omega)]; exact hb.1, fun q hq => by cases hq⟩ trivial (fun c hc => f1 c (by omega)) a1
  obtain ⟨M', e', x', b', o', p', -⟩ := key
  refine ⟨M', ?_, x', b', o', p'⟩
  rw [show (10 : Nat) = 9 + 1 from rfl, F_M_tryTwo]
  unfold F_M_tryTwo_body
  rw [if_neg (by decide +kernel)]
  rw [show F_M_putAside N 0 M = some M1 from e1]
  simp only [mk_bs]
  exact e'
end Two3
theorem op_21 {N : Nat} (hN : 10000 ≤ N) : mo_21 N mk_I := by
  intro M ⟨S, A, hw, hX, hM⟩ a
  have h6 := hw.h6
  have hht := hw.ht
  by_cases c0 : S 48 25 = 0
  · refine mk_fin (r := -1) hw hX hM (mk_QX.same fun M hX => ?_) (mk_QM.same fun M hM => ?_)
    · unfold F_W_two; rw [mk_Xtold0 hX c0]; rfl
    · unfold F_M_two; rw [if_pos (mk_H0 hM c0)]
  rcases mk_ix a (n := 2) (by omega) with h' | ⟨w, hwt, rfl⟩
  · refine mk_fin (r := -1) hw hX hM (mk_QX.same fun M hX => ?_) (mk_QM.same fun M hM => ?_)
    · unfold F_W_two
      rw [mk_Xtold1 hX hw (by omega)]
      simp only [mk_bs]
      rw [if_neg (by decide +kernel)]
      by_cases d : a < 0
      · rw [if_pos d]
      · rw [if_neg d, nl_1, if_neg (nw_gt (h'.resolve_left d) (by omega)).2.1]
    · unfold F_M_two
      rw [if_neg (mk_H1 hM hw c0), nl_0, nl_1, mk_Mino h' (by omega)]
      rfl
  refine mk_fin (r := if w = 0 then mk_er (mk_f1 S A) else mk_es (mk_f1 S A)) hw hX hM (fun M hX => ?_) (fun M hM => ?_)
  · obtain ⟨M1, e1, r1⟩ := mk_Xtwo (N := N) (by omega) hw hX
    refine ⟨M1, ?_, r1.X hX⟩
    unfold F_W_two
    rw [mk_Xtold1 hX hw (by omega)]
    simp only [mk_bs]
    rw [if_neg (by decide +kernel), if_neg (nI_pos (by omega)), nl_1, if_pos (nI_le (by omega) (by omega)), e1]
    simp (disch := omega) only [mk_bs, nl_0, nw_eq]
    rw [r1.2.2.1, r1.2.2.2.1]
    split <;> rfl
  · have hM4 : mk_M S A (mj_u M 48 35 (-1)) := mk_M35 hM (fun c hc => nw_u9 _ hc) (fun k k1 _ => by rw [mj_u_eq, mj_up_ne _ _ _ k1])
    obtain ⟨M1, e1, x1, b1, o1, f1⟩ := mk_Mtwo hN hw (by omega) (by omega) hM4 ⟨by rw [mj_u_eq, mj_up_eq]; rfl, fun q hq => by cases hq⟩
    refine ⟨M1, ?_, x1, (mk_fm.rf.u (by omega)).tr f1⟩
    unfold F_M_two
    rw [if_neg (mk_H1 hM hw c0), show F_M_in (nI w) 0 1 M = some (nI 1, M) from mk_Mini (n := 1) (by omega) (by omega)]
    simp only [mk_bs, mj_lt]
    rw [if_neg (show ¬ nI 1 = (0 : Int32) by decide +kernel), e1]
    simp only [mk_bs]
    obtain ⟨q1, q2⟩ := b1
    rw [q1]
    generalize mk_f1 S A = o at *
    cases o with
    | none =>
      rw [if_pos (show mk_er none = -1 from rfl)]
      split <;> rfl
    | some q =>
      have hq : q.1 < 10000 ∧ q.2 < 1000 := o1
      rw [if_neg (show ¬ mk_er (some q) = (-1 : Int32) from (show ¬ nI q.1 = -nI 1 by simp (disch := omega) only [nw_eqm]; trivial)), q2 q rfl]
      simp (disch := omega) only [nl_0, nw_eq]
      split <;> rfl
