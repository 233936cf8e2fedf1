/-! ===== the pure side: round, the way ===== -/
section Way
variable {N : Nat} {S : mk_S} {A : mk_L}
theorem mk_b71 {M0 M : mj_M} {R : mk_S} {a b i n : Nat} (hN : 10000 ≤ N) (hw : mk_W S A) (hX : mk_X S A M0) (h : mk_rs (A := A) S R) (h0 : 0 < S 48 25) (hr : mk_rx S A M0 R a b M) (hi : i < 12) (last st : Int32) : ∃ M', F_Plans_goRound_b71 N (n + 1) last (nI (R 65 42)) st (nI i) M = mk_xp N (F_Plans_goRound_b71 N n) last (nI (R 65 42)) st (nI i) M' ∧ mk_rx S A M0 (mk_rt S A R) (mk_ra S A R a) (mk_rn S A R b) M' := by
  obtain ⟨M1, e1, x1⟩ := mk_Xrt hN hw hX h h0 hr
  refine ⟨M1, ?_, x1⟩
  rw [F_Plans_goRound_b71, nl_12, if_neg (nI_ge hi (by omega)), e1]
  simp only [mk_bs]
  rfl
theorem mk_b57 {M0 M : mj_M} {R : mk_S} {a b x : Nat} (hN : 10000 ≤ N) (h : mk_rs (A := A) S R) (h0 : 0 < S 48 25) (h6 : S 48 25 ≤ 6) (hr : mk_rm S A M0 R a b M) (hx : x < S 48 25) (hd : nw_d x (R 65 42) = 1) (hb : 1 ≤ R 65 44) (k : Int32 → mj_M → Option (Int32 × mj_M)) (x1 : Int32) : ∃ M', F_M_stepsTo_b57 N k x1 (nI x) M = k x1 M' ∧ mk_rm S A M0 (mk_rt S A (mk_go R x)) (mk_ra S A (mk_go R x) a) (mk_rn S A (mk_go R x) b) M' := by
  obtain ⟨M1, e1, r1⟩ := mk_Mgo1 h hr (show x < 6 by omega) hd hb
  obtain ⟨M2, e2, r2⟩ := mk_Mrt hN (mk_go_rs h hx h6).1 h0 r1
  refine ⟨M2, ?_, r2⟩
  unfold F_M_stepsTo_b57
  rw [e1]
  simp only [mk_bs]
  rw [e2]
  simp only [mk_bs]
theorem mk_down (hN : 10000 ≤ N) (hw : mk_W S A) (h0 : 0 < S 48 25) : ∀ h (R : mk_S) a b, mk_rs (A := A) S R → R 65 42 = h → h < S 48 25 → ∃ R' a' b', mk_rs (A := A) S R' ∧ (∀ M0 Mx i n, mk_X S A M0 → mk_rx S A M0 R a b Mx → i + h < 12 → h < n → ∃ Mx', mk_xp N (F_Plans_goRound_b71 N n) (nI (S 48 25 - 1)) (nI h) (-1) (nI i) Mx = some Mx' ∧ mk_rx S A M0 R' a' b' Mx') ∧ (∀ M0 Mm n, mk_rm S A M0 R a b Mm → h < n → ∃ r Mm', F_M_stepsTo_b0 N n 0 Mm = some (r, Mm') ∧ mk_rm S A M0 R' a' b' Mm') := by
  have h6 := hw.h6
  intro h
  induction h with
  | zero =>
    intro R a b hs hR hH
    have hb9 := hs.2.2.now.bread
    refine ⟨R, a, b, hs, fun M0 Mx i n hX hr hi hn => ⟨Mx, ?_, hr⟩, fun M0 Mm n hr hn => ⟨1, Mm, ?_, hr⟩⟩
    · unfold mk_xp
      split
      · rfl
      · rw [if_pos (show nI 0 = (0 : Int32) from rfl), if_neg (by decide +kernel)]
    · obtain ⟨n, rfl⟩ : ∃ k, n = k + 1 := ⟨n - 1, by omega⟩
      rw [F_M_stepsTo_b0, hr.1.now 42 (by omega), hR, if_pos (show nI 0 = (0 : Int32) from rfl)]
  | succ h ih =>
    intro R a b hs hR hH
    have hb9 := hs.2.2.now.bread
    by_cases c : R 65 44 = 0
    · refine ⟨R, a, b, hs, fun M0 Mx i n hX hr hi hn => ⟨Mx, ?_, hr⟩, fun M0 Mm n hr hn => ⟨0, Mm, ?_, hr⟩⟩
      · unfold mk_xp
        rw [hr.2.2.2.2, c, if_pos (show nI 0 < (1 : Int32) by decide +kernel)]
      · obtain ⟨n, rfl⟩ : ∃ k, n = k + 1 := ⟨n - 1, by omega⟩
        rw [F_M_stepsTo_b0, hr.1.now 42 (by omega), hr.1.now 44 (by omega), hR, c, if_neg (show ¬ nI (h + 1) = (0 : Int32) from nI_ne0 (by omega) (by omega)), if_neg (show ¬ (1 : Int32) ≤ nI 0 by decide +kernel)]
    · have hgo := mk_go_rs hs (show h < S 48 25 by omega) h6
      have hrt := mk_rt_rs hgo.1 h0
      obtain ⟨R', a', b', hs', ex, em⟩ := ih (mk_rt S A (mk_go R h)) (mk_ra S A (mk_go R h) a) (mk_rn S A (mk_go R h) b) hrt.1 (by rw [hrt.2, hgo.2]) (by omega)
      refine ⟨R', a', b', hs', fun M0 Mx i n hX hr hi hn => ?_, fun M0 Mm n hr hn => ?_⟩
      · obtain ⟨n, rfl⟩ : ∃ k, n = k + 1 := ⟨n - 1, by omega⟩
        obtain ⟨M1, e1, r1⟩ := mk_Xgo1 (N := N) (x := h) (y := 0) hr (by omega) hb9 (F_Plans_goRound_b71 N (n + 1)) (nI (S 48 25 - 1)) (-1) (nI i) (h + 1) (pk_m1 h)
        obtain ⟨M2, e2, r2⟩ := mk_b71 (i := i + 1) (n := n) hN hw hX hgo.1 h0 r1 (by omega) (nI (S 48 25 - 1)) (-1)
        obtain ⟨M3, e3, r3⟩ := ex M0 M2 (i + 1) n hX r2 (by omega) (by omega)
        refine ⟨M3, ?_, r3⟩
        rw [hgo.2] at e2
        unfold mk_xp
        rw [hr.2.2.2.2, if_neg (show ¬ nI (R 65 44) < (1 : Int32) from nI_nlt (b := 1) (by omega) (by omega)), if_neg (show ¬ nI (h + 1) = (0 : Int32) from nI_ne0 (by omega) (by omega)), e1, if_neg (show ¬ nI h = nI (S 48 25 - 1) by rw [nw_eq (by omega) (by omega)]; omega), nI_1, e2]
        exact e3
      · obtain ⟨n, rfl⟩ : ∃ k, n = k + 1 := ⟨n - 1, by omega⟩
        obtain ⟨M1, e1, r1⟩ := mk_b57 (x := h) hN hs h0 h6 hr (by omega) (by rw [hR]; unfold nw_d; omega) (by omega) (F_M_stepsTo_b0 N n) 0
        obtain ⟨r, M2, e2, r2⟩ := em M0 M1 n r1 (by omega)
        refine ⟨r, M2, ?_, r2⟩
        rw [F_M_stepsTo_b0, hr.1.now 42 (by omega), hr.1.now 44 (by omega), hR, if_neg (show ¬ nI (h + 1) = (0 : Int32) from nI_ne0 (by omega) (by omega)), if_pos (show (1 : Int32) ≤ nI (R 65 44) from nI_le (a := 1) (by omega) (by omega)), if_pos (show (0 : Int32) ≤ nI (h + 1) from nI_pos' (by omega)), nI_pred, e1]
        exact e2
theorem mk_up (hN : 10000 ≤ N) (hw : mk_W S A) (h2 : 2 ≤ S 48 25) (G : mj_M → Option (Int32 × mj_M)) : ∀ d h (R : mk_S) a b, h + d + 1 = S 48 25 → mk_rs (A := A) S R → R 65 42 = h → ∃ R' a' b', mk_rs (A := A) S R' ∧ (∀ M0 Mx i n, mk_X S A M0 → mk_rx S A M0 R a b Mx → i + d + (S 48 25 - 1) < 12 → d + (S 48 25 - 1) < n → ∃ Mx', mk_xp N (F_Plans_goRound_b71 N n) (nI (S 48 25 - 1)) (nI h) (if d = 0 then -1 else 1) (nI i) Mx = some Mx' ∧ mk_rx S A M0 R' a' b' Mx') ∧ (∀ M0 Mm n, mk_rm S A M0 R a b Mm → d < n → ∃ Mm', ((F_M_stepsTo_b0 N n (nI (S 48 25 - 1)) Mm).bind (fun q8 => if q8.1 = (0) then G q8.2 else ((F_M_stepsTo N 0 q8.2).bind (fun q10 => G q10.2)))) = G Mm' ∧ mk_rm S A M0 R' a' b' Mm') := by
  have h6 := hw.h6
  intro d
  induction d with
  | zero =>
    intro h R a b hd hs hR
    obtain ⟨R', a', b', hs', ex, em⟩ := mk_down hN hw (by omega) h R a b hs hR (by omega)
    refine ⟨R', a', b', hs', fun M0 Mx i n hX hr hi hn => ?_, fun M0 Mm n hr hn => ?_⟩
    · rw [if_pos rfl]
      exact ex M0 Mx i n hX hr (by omega) (by omega)
    · obtain ⟨n, rfl⟩ : ∃ k, n = k + 1 := ⟨n - 1, by omega⟩
      obtain ⟨r, M1, e1, r1⟩ := em M0 Mm N hr (by omega)
      refine ⟨M1, ?_, r1⟩
      rw [F_M_stepsTo_b0, hr.1.now 42 (by omega), hR, if_pos (show nI h = nI (S 48 25 - 1) by congr 1; omega)]
      simp only [mk_bs]
      rw [if_neg (by decide +kernel)]
      unfold F_M_stepsTo
      rw [e1]
      simp only [mk_bs]
  | succ d ih =>
    intro h R a b hd hs hR
    have hb9 := hs.2.2.now.bread
    by_cases c : R 65 44 = 0
    · refine ⟨R, a, b, hs, fun M0 Mx i n hX hr hi hn => ⟨Mx, ?_, hr⟩, fun M0 Mm n hr hn => ⟨Mm, ?_, hr⟩⟩
      · unfold mk_xp
        rw [hr.2.2.2.2, c, if_pos (show nI 0 < (1 : Int32) by decide +kernel)]
      · obtain ⟨n, rfl⟩ : ∃ k, n = k + 1 := ⟨n - 1, by omega⟩
        rw [F_M_stepsTo_b0, hr.1.now 42 (by omega), hr.1.now 44 (by omega), hR, c, if_neg (show ¬ nI h = nI (S 48 25 - 1) by rw [nw_eq (by omega) (by omega)]; omega), if_neg (show ¬ (1 : Int32) ≤ nI 0 by decide +kernel)]
        simp only [mk_bs]
        rw [if_pos trivial]
    · have hgo := mk_go_rs hs (show h + 1 < S 48 25 by omega) h6
      have hrt := mk_rt_rs hgo.1 (show 0 < S 48 25 by omega)
      obtain ⟨R', a', b', hs', ex, em⟩ := ih (h + 1) (mk_rt S A (mk_go R (h + 1))) (mk_ra S A (mk_go R (h + 1)) a) (mk_rn S A (mk_go R (h + 1)) b) (by omega) hrt.1 (by rw [hrt.2, hgo.2])
      refine ⟨R', a', b', hs', fun M0 Mx i n hX hr hi hn => ?_, fun M0 Mm n hr hn => ?_⟩
      · obtain ⟨n, rfl⟩ : ∃ k, n = k + 1 := ⟨n - 1, by omega⟩
        obtain ⟨M1, e1, r1⟩ := mk_Xgo1 (N := N) (x := h + 1) (y := 0) hr (by omega) hb9 (F_Plans_goRound_b71 N (n + 1)) (nI (S 48 25 - 1)) 1 (nI i) h (nI_1 h)
        obtain ⟨M2, e2, r2⟩ := mk_b71 (i := i + 1) (n := n) hN hw hX hgo.1 (by omega) r1 (by omega) (nI (S 48 25 - 1)) (if d = 0 then -1 else 1)
        obtain ⟨M3, e3, r3⟩ := ex M0 M2 (i + 1) n hX r2 (by omega) (by omega)
        refine ⟨M3, ?_, r3⟩
        rw [hgo.2] at e2
        have eb : mk_xp N (F_Plans_goRound_b71 N (n + 1)) (nI (S 48 25 - 1)) (nI h) 1 (nI i) Mx = F_Plans_goRound_b100 N (F_Plans_goRound_b71 N (n + 1)) (nI (S 48 25 - 1)) (nI h) 1 (nI i) Mx := by
          unfold mk_xp
          rw [hr.2.2.2.2, if_neg (show ¬ nI (R 65 44) < (1 : Int32) from nI_nlt (b := 1) (by omega) (by omega)), if_pos (show (0 : Int32) ≤ 1 by decide +kernel)]
          split <;> rfl
        rw [if_neg (show ¬ d + 1 = 0 by omega), eb, e1, nI_1]
        have ei : (if nI (h + 1) = nI (S 48 25 - 1) then F_Plans_goRound_b71 N (n + 1) (nI (S 48 25 - 1)) (nI (h + 1)) (-1) (nI (i + 1)) M1 else F_Plans_goRound_b71 N (n + 1) (nI (S 48 25 - 1)) (nI (h + 1)) 1 (nI (i + 1)) M1) = F_Plans_goRound_b71 N (n + 1) (nI (S 48 25 - 1)) (nI (h + 1)) (if d = 0 then -1 else 1) (nI (i + 1)) M1 := by
          simp (disch := omega) only [nw_eq]
          by_cases dd : d = 0
          · rw [if_pos (by omega), if_pos dd]
          · rw [if_neg (by omega), if_neg dd]
        rw [ei, e2]
        exact e3
      · obtain ⟨n, rfl⟩ : ∃ k, n = k + 1 := ⟨n - 1, by omega⟩
        obtain ⟨M1, e1, r1⟩ := mk_b57 (x := h + 1) hN hs (by omega) h6 hr (by omega) (by rw [hR]; unfold nw_d; omega) (by omega) (F_M_stepsTo_b0 N n) (nI (S 48 25 - 1))
        obtain ⟨M2, e2, r2⟩ := em M0 M1 n r1 (by omega)
        refine ⟨M2, ?_, r2⟩
        rw [F_M_stepsTo_b0, hr.1.now 42 (by omega), hr.1.now 44 (by omega), hR, if_neg (show ¬ nI h = nI (S 48 25 - 1) by rw [nw_eq (by omega) (by omega)]; omega), if_pos (show (1 : Int32) ≤ nI (R 65 44) from nI_le (a := 1) (by omega) (by omega)), if_neg (show ¬ nI (S 48 25 - 1) ≤ nI h from nI_ge (by omega) (by omega)), nI_1, e1]
        exact e2
theorem mk_Maside {M : mj_M} (hN : 10000 ≤ N) (hM : mk_M S A M) : ∃ M', F_M_putAside N 0 M = some M' ∧ mk_M S A M' ∧ mk_fm M M' ∧ ∀ k, k < 48 → M' 68 k = nI (S 65 k) := by
  obtain ⟨M', p, q⟩ := mk_lp (L := fun n (_ : Unit) i M => F_M_putAside_b2 N n 0 (nI i) M) 48 (fun _ s => s) (fun i _ M1 => (∀ c, c ≠ 68 → M1 c = M c) ∧ ∀ k, k < i → M1 68 k = nI (S 65 k)) (fun _ M => some M)
    (fun n s M1 p => by rw [F_M_putAside_b2, nl_48, if_pos (Int32.le_refl _)])
    (fun n s i M1 hi p => by
      obtain ⟨p1, p2⟩ := p
      refine ⟨mj_u M1 68 i (nI (S 65 i)), ⟨fun c hc => by rw [nw_u9 _ hc]; exact p1 c hc, fun k hk => ?_⟩, ?_⟩
      · rw [mj_u_eq]
        by_cases e : k = i
        · rw [e, mj_up_eq]
        · rw [mj_up_ne _ _ _ e]; exact p2 k (by omega)
      · rw [F_M_putAside_b2, nl_48, if_neg (nI_ge hi (by omega)), nl_0, pk_mul, nI_add, show 48 * 0 + i = i by omega, nw_ck (by omega) (by omega), nw_ck (by omega) (by omega), nI_clamp (by omega), p1 65 (by omega), hM.now i (by omega), nI_1]
        rfl)
    48 0 N () M (by omega) (by omega) ⟨fun _ _ => rfl, fun k hk => by omega⟩
  exact ⟨M', q, hM.sc fun c j hc => congrFun (p.1 c (by unfold mk_sm at hc; omega)) j, fun c hc => p.1 c (by omega), p.2⟩
theorem mk_Mtake (hN : 10000 ≤ N) {R : mk_S} {a b : Nat} {M0 M : mj_M} (hs : mk_rs (A := A) S R) (hr : mk_rm S A M0 R a b M) : ∃ M', F_M_takeBack N 0 M = some M' ∧ mk_M S A M' ∧ mk_fm M0 M' ∧ M' 48 = M 48 := by
  obtain ⟨r1, r2, r3, r4, r5⟩ := hr
  obtain ⟨M', p, q⟩ := mk_lp (L := fun n (_ : Unit) i M => F_M_takeBack_b2 N n 0 (nI i) M) 48 (fun _ s => s) (fun i _ M1 => (∀ c, c ≠ 65 → M1 c = M c) ∧ (∀ k, k < i → M1 65 k = nI (S 65 k)) ∧ ∀ k, i ≤ k → M1 65 k = M 65 k) (fun _ M => some M)
    (fun n s M1 p => by rw [F_M_takeBack_b2, nl_48, if_pos (Int32.le_refl _)])
    (fun n s i M1 hi p => by
      obtain ⟨p1, p2, p3⟩ := p
      refine ⟨mj_u M1 65 i (nI (S 65 i)), ⟨fun c hc => by rw [nw_u9 _ hc]; exact p1 c hc, fun k hk => ?_, fun k hk => ?_⟩, ?_⟩
      · rw [mj_u_eq]
        by_cases e : k = i
        · rw [e, mj_up_eq]
        · rw [mj_up_ne _ _ _ e]; exact p2 k (by omega)
      · rw [mj_u_eq, mj_up_ne _ _ _ (by omega)]; exact p3 k (by omega)
      · rw [F_M_takeBack_b2, nl_48, if_neg (nI_ge hi (by omega)), nl_0, pk_mul, nI_add, show 48 * 0 + i = i by omega, nw_ck (by omega) (by omega), nw_ck (by omega) (by omega), nI_clamp (by omega), p1 68 (by omega), r5 i hi, nI_1]
        rfl)
    48 0 N () M (by omega) (by omega) ⟨fun _ _ => rfl, fun k hk => by omega, fun _ _ => rfl⟩
  obtain ⟨p1, p2, p3⟩ := p
  have hc := hs.1
  refine ⟨M', q, ?_, fun c hc => by rw [p1 c (by omega)]; exact r2 c hc, p1 48 (by omega)⟩
  unfold mk_M at r1 ⊢
  simp (disch := omega) only [hc] at r1
  obtain ⟨z_size, z_laws, z_hs, z_ts, z_hold, z_why, z_kept, z_sights, z_img, z_tape, z_lens, z_codes, z_often, z_house, z_tale, z_now, z_ref, z_rows, z_sh, z_sb, z_si, z_image⟩ := r1
  simp (disch := omega) only [p1]
  refine ⟨z_size, z_laws, z_hs, z_ts, z_hold, z_why, z_kept, z_sights, z_img, z_tape, z_lens, fun n hn => mk_cl_cg (p1 _ (by omega)) (p1 _ (by omega)) (p1 _ (by omega)) (p1 _ (by omega)) (p1 _ (by omega)) _ _ _ (z_codes n hn), z_often, z_house, z_tale, fun k hk => ?_, z_ref, z_rows, z_sh, z_sb, z_si, z_image⟩
  by_cases c : k < 48
  · exact p2 k c
  · rw [p3 k (by omega), z_now k hk, hs.2.1 k (by omega) (by omega)]
end Way
theorem op_34 {N : Nat} (hN : 10000 ≤ N) : mo_34 N mk_I := by
  intro M ⟨S, A, hw, hX, hM⟩ a
  have h6 := hw.h6
  have hht := hw.ht
  by_cases c0 : S 48 25 = 0
  · refine mk_fin (r := -1) hw hX hM (mk_QX.same fun M hX => ?_) (mk_QM.same fun M hM => ?_)
    · unfold F_W_round; rw [mk_Xtold0 hX c0]; rfl
    · unfold F_M_round; rw [if_pos (mk_H0 hM c0)]
  rcases mk_ix a (n := 3) (by omega) with h' | ⟨w, hwt, rfl⟩
  · refine mk_fin (r := -1) hw hX hM (mk_QX.same fun M hX => ?_) (mk_QM.same fun M hM => ?_)
    · unfold F_W_round
      rw [mk_Xtold1 hX hw (by omega)]
      simp only [mk_bs]
      rw [if_neg (by decide +kernel)]
      by_cases d : a < 0
      · rw [if_pos d]
      · rw [if_neg d, nl_2, if_neg (nw_gt (h'.resolve_left d) (by omega)).2.1]
    · unfold F_M_round
      rw [if_neg (mk_H1 hM hw c0), nl_0, nl_2, mk_Mino h' (by omega)]
      rfl
  have hsp := hw.now.spotH (by omega)
  have hb := hw.now.bread
  have hs0 : mk_rs (A := A) S S := ⟨fun _ _ => rfl, fun _ _ _ => rfl, hw⟩
  have hrt := mk_rt_rs hs0 (by omega)
  obtain ⟨R', a', b', hs', ex, em⟩ := mk_up hN hw (by omega) (F_M_round_b56 N (nI w)) (S 48 25 - 1 - S 65 42) (S 65 42) (mk_rt S A S) (mk_ra S A S 0) (mk_rn S A S 0) (by omega) hrt.1 hrt.2
  have hbr := hs'.2.2.now.bread
  refine mk_fin (r := if w = 0 then nI a' else if w = 1 then nI b' else nI (R' 65 44)) hw hX hM (fun M hX => ?_) (fun M hM => ?_)
  · obtain ⟨n1, n2, n3, n4, n5, n6, n7, n8, n9⟩ := hX.now
    have hr0 : mk_rx S A M S 0 0 (mj_a (mj_u (mj_u (mj_u M 33 4 (nI 0)) 33 5 (nI 0)) 33 6 (nI (S 65 44))) 36 (va_cpy (M 22) (M 36) 0 0 36)) := by
      refine ⟨fun c c1 c2 c3 c4 => by rw [nw_a9 _ c4, nw_u9 _ c3, nw_u9 _ c3, nw_u9 _ c3], fun k hk => ?_, ?_, ?_, ?_⟩
      · rw [nw_ae, pk_cpy_in (by omega) (by omega), show 0 + (k - 0) = k by omega]; exact n9 k hk
      · rw [nw_a9 _ (by omega), mj_u_eq, mj_up_ne _ _ _ (by omega), mj_u_eq, mj_up_ne _ _ _ (by omega), mj_u_eq, mj_up_eq]
      · rw [nw_a9 _ (by omega), mj_u_eq, mj_up_ne _ _ _ (by omega), mj_u_eq, mj_up_eq]
      · rw [nw_a9 _ (by omega), mj_u_eq, mj_up_eq]
    obtain ⟨n, hn⟩ : ∃ n, N = n + 1 := ⟨N - 1, by omega⟩
    obtain ⟨M1, e1, r1⟩ := mk_b71 (i := 0) (n := n) hN hw hX hs0 (by omega) hr0 (by omega) (nI (S 48 25 - 1)) (if S 48 25 - 1 - S 65 42 = 0 then -1 else 1)
    obtain ⟨M2, e2, r2⟩ := ex M M1 0 n hX r1 (by omega) (by omega)
    have x2 := r2.X hX
    refine ⟨M2, ?_, x2⟩
    have eg : F_Plans_goRound N M = some M2 := by
      unfold F_Plans_goRound
      simp only [mj_lt]
      simp (disch := omega) only [nw_u9, nw_a9]
      rw [n3, nl_0, nl_36, nw_ac (by omega) (by omega) (by omega) (by omega), nI_clamp (by omega), nI_clamp (by omega), hX.hs, n1, nl_1, pk_sub (by omega)]
      simp (disch := omega) only [nw_le]
      rw [← hn] at e1
      by_cases cc : S 48 25 - 1 ≤ S 65 42
      · rw [if_pos cc]
        rw [if_pos (show S 48 25 - 1 - S 65 42 = 0 by omega)] at e1 e2
        exact e1.trans e2
      · rw [if_neg cc]
        rw [if_neg (show ¬ S 48 25 - 1 - S 65 42 = 0 by omega)] at e1 e2
        exact e1.trans e2
    unfold F_W_round
    rw [mk_Xtold1 hX hw (by omega)]
    simp only [mk_bs]
    rw [if_neg (by decide +kernel), if_neg (nI_pos (by omega)), nl_2, if_pos (nI_le (by omega) (by omega)), eg]
    simp (disch := omega) only [mk_bs, nl_0, nl_1, nw_eq]
    rw [r2.2.2.1, r2.2.2.2.1, r2.2.2.2.2]
    split
    · rfl
    · split <;> rfl
  · obtain ⟨M1, e1, x1, f1, a1⟩ := mk_Maside hN hM
    have hr0 : mk_rm S A M S 0 0 (mj_u (mj_u M1 48 41 (nI 0)) 48 42 (nI 0)) := by
      refine ⟨x1.sc (fun c j hc => ?_), (f1.u (by omega)).u (by omega), ?_, ?_, fun k hk => by rw [nw_u9 _ (by omega), nw_u9 _ (by omega)]; exact a1 k hk⟩
      · by_cases d : c = 48
        · subst d
          have : j ≠ 41 ∧ j ≠ 42 := by unfold mk_sm at hc; omega
          rw [mj_u_eq, mj_up_ne _ _ _ this.2, mj_u_eq, mj_up_ne _ _ _ this.1]
        · rw [nw_u9 _ d, nw_u9 _ d]
      · rw [mj_u_eq, mj_up_ne _ _ _ (by omega), mj_u_eq, mj_up_eq]
      · rw [mj_u_eq, mj_up_eq]
    obtain ⟨M2, e2, r2⟩ := mk_Mrt hN hs0 (by omega) hr0
    obtain ⟨M3, e3, r3⟩ := em M M2 N r2 (by omega)
    obtain ⟨M4, e4, x4, f4, g4⟩ := mk_Mtake hN hs' r3
    refine ⟨M4, ?_, x4, f4⟩
    unfold F_M_round
    rw [if_neg (mk_H1 hM hw c0), show F_M_in (nI w) 0 2 M = some (nI 1, M) from mk_Mini (n := 2) (by omega) (by omega)]
    simp only [mk_bs]
    rw [if_neg (show ¬ nI 1 = (0 : Int32) by decide +kernel), e1]
    simp only [mk_bs, mj_lt]
    rw [show (0 : Int32) = nI 0 from rfl, e2]
    simp only [mk_bs]
    rw [r2.1.hs, hrt.1.1 48 (by omega), nl_1, pk_sub (by omega)]
    unfold F_M_stepsTo at e3 ⊢
    refine e3.trans ?_
    unfold F_M_round_b56
    simp only [mj_lt]
    rw [e4]
    simp only [mk_bs]
    rw [g4, r3.2.2.1, r3.2.2.2.1, r3.1.now 44 (by omega)]
    simp (disch := omega) only [nl_0, nl_1, nw_eq]
    split
    · rfl
    · split <;> rfl
