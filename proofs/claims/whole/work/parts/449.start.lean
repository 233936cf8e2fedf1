/-! ===== the pure side: a coast's text, both readers; asked for its fault ===== -/
def mk_K0 : mk_S := fun c => if c = 59 then mk_tus else fun _ => 0
section CoastA
variable {N : Nat} {τ : Nat → Nat} {z p : Nat} {S : mk_S} {A : mk_L} {M M' : mj_M}
theorem mk_kw0 : mk_kw mk_K0 := by
  refine ⟨Nat.zero_le _, Nat.zero_le _, Nat.zero_le _, fun k hk => ?_, fun h hh => absurd hh (Nat.not_lt_zero _), fun h hh => absurd hh (Nat.not_lt_zero _)⟩
  have t9 := mk_t99 (0 + k) (by omega)
  show mk_tlo (0 + k) ≤ mk_tus k ∧ mk_tus k ≤ mk_thi (0 + k)
  rw [Nat.zero_add] at *
  exact ⟨t9.2.2.1, t9.2.2.2.1⟩
theorem mk_b24m : ∀ d i n (M : mj_M), i + d = 4 → d < n → (∀ k, k < i → M 59 k = nI (mk_tus k)) → ∃ M', (∀ k, k < 4 → M' 59 k = nI (mk_tus k)) ∧ (∀ c, c ≠ 59 → M' c = M c) ∧ F_M_readCoast_b24 N n (0 : Int32) (nI i) M = F_M_readCoast_b49 N N (0 : Int32) (1 : Int32) M' := by
  intro d
  induction d with
  | zero =>
    intro i n M hi hn hM
    obtain ⟨n, rfl⟩ : ∃ k, n = k + 1 := ⟨n - 1, by omega⟩
    refine ⟨M, fun k hk => hM k (by omega), fun _ _ => rfl, ?_⟩
    rw [F_M_readCoast_b24, show i = 4 by omega, if_pos (show (4 : Int32) ≤ nI 4 by decide +kernel)]
  | succ d ih =>
    intro i n M hi hn hM
    obtain ⟨n, rfl⟩ : ∃ k, n = k + 1 := ⟨n - 1, by omega⟩
    obtain ⟨M', x1, x2, x3⟩ := ih (i + 1) n (mj_u M 59 i (nI (mk_tus i))) (by omega) (by omega) (fun k hk => by
      rw [mj_u_eq]
      by_cases e : k = i
      · rw [e, mj_up_eq]
      · rw [mj_up_ne _ _ _ e]; exact hM k (by omega))
    refine ⟨M', x1, fun c hc => by rw [x2 c hc, nw_u9 _ hc], ?_⟩
    have us := mk_Mus_0 (M := M) (k := i) (by omega)
    rw [Nat.zero_add] at us
    rw [F_M_readCoast_b24, nl_4, if_neg (nI_ge (by omega) (by omega)), show F_M_usual (115 : Int32) (nI i) M = _ from us, mk_bs]
    simp only [mj_lt]
    rw [nw_ck (by omega) (by omega), nI_clamp (by omega), nI_1]
    exact x3
theorem mk_Acoast (hN : 1000 ≤ N) (hz : mk_tp τ z) :
    (∃ K, mk_kw K ∧ 2 ≤ K 48 20 ∧ 1 ≤ K 48 21 ∧ K 59 2 < K 48 20 ∧ (∀ M, mk_xt1 τ z M → ∃ M', F_CoastReader_read N M = some (-nI 1, M') ∧ mk_kdx K M' ∧ M' 2 1 = nI z ∧ mk_kfx M M') ∧ (∀ M, mk_mt1 τ z M → ∃ M', F_M_readCoast N M = some (-nI 1, M') ∧ mk_kdm K M' ∧ mk_kfm M M'))
    ∨ (∃ w, w ≤ z ∧ (∀ M, mk_xt1 τ z M → ∃ M', F_CoastReader_read N M = some (nI w, M') ∧ mk_kxf z M w M') ∧ (∀ M, mk_mt1 τ z M → ∃ M', F_M_readCoast N M = some (nI w, M') ∧ mk_kmf M w M')) := by
  have hz2 := hz.1
  have eX : ∀ M, mk_xt1 τ z M → ∃ M1, mk_kx τ z M mk_K0 0 M1 ∧ F_CoastReader_read N M = (F_CoastReader_readClause N M1).bind (fun q7 => F_CoastReader_read_b44 N N (nI 0) q7) := by
    intro M h
    have hq : mk_qx τ z 0 (mj_u (mj_u M 2 2 (0 : Int32)) 2 3 (-1 : Int32)) := ⟨(h.u (by omega)).u (by omega), Nat.zero_le _, by rw [mj_u_eq, mj_up_ne _ _ _ (by omega), mj_u_eq, mj_up_eq]; rfl, by rw [mj_u_eq, mj_up_eq]; rfl⟩
    have hq2 := ((hq.u (c := 41) (k := 0) (x := (0 : Int32)) (by omega)).u (c := 41) (k := 1) (x := (0 : Int32)) (by omega)).u (c := 4) (k := 3) (x := (0 : Int32)) (by omega)
    have hf : mk_kfx M M := fun _ _ _ _ _ => rfl
    have hf2 := ((((hf.u (c := 2) (k := 2) (v := (0 : Int32)) (by omega)).u (c := 2) (k := 3) (v := (-1 : Int32)) (by omega)).u (c := 41) (k := 0) (v := (0 : Int32)) (by omega)).u (c := 41) (k := 1) (v := (0 : Int32)) (by omega)).u (c := 4) (k := 3) (v := (0 : Int32)) (by omega)
    have e41 : ∀ k, k = 0 ∨ k = 1 → mj_u (mj_u (mj_u (mj_u (mj_u M 2 2 (0 : Int32)) 2 3 (-1 : Int32)) 41 0 (0 : Int32)) 41 1 (0 : Int32)) 4 3 (0 : Int32) 41 k = nI 0 := fun k hk => by
      rcases hk with rfl | rfl
      · simp (disch := omega) only [nw_u9, mj_u_eq, mj_up_eq, mj_up_ne]; rfl
      · simp (disch := omega) only [nw_u9, mj_u_eq, mj_up_eq, mj_up_ne]; rfl
    have e43 : mj_u (mj_u (mj_u (mj_u (mj_u M 2 2 (0 : Int32)) 2 3 (-1 : Int32)) 41 0 (0 : Int32)) 41 1 (0 : Int32)) 4 3 (0 : Int32) 4 3 = nI 0 := by rw [mj_u_eq, mj_up_eq]; rfl
    have e0 : F_CoastReader_read N M = ((F_CoastReader_takeItemsWithout (0 : Int32) (4 : Int32) (mj_u (mj_u (mj_u (mj_u (mj_u M 2 2 (0 : Int32)) 2 3 (-1 : Int32)) 41 0 (0 : Int32)) 41 1 (0 : Int32)) 4 3 (0 : Int32))).bind (fun q5 => (F_CoastReader_keepRules q5).bind (fun q6 => (F_CoastReader_readClause N q6).bind (fun q7 => F_CoastReader_read_b44 N N (0 : Int32) q7)))) := rfl
    generalize mj_u (mj_u (mj_u (mj_u (mj_u M 2 2 (0 : Int32)) 2 3 (-1 : Int32)) 41 0 (0 : Int32)) 41 1 (0 : Int32)) 4 3 (0 : Int32) = M1 at *
    have hv : ∀ k, k < 4 → mj_a M1 5 (va_cpy (fun j => ([20, 63, 0, 1, 0, 3, 2, 4, 2, 0] : List Int32).getD j 0) (M1 5) 0 0 4) 5 k = nI (mk_tus k) := fun k hk => by
      rw [nw_ae]
      unfold va_cpy
      rw [if_pos (by omega), show 0 + (k - 0) = k by omega]
      exact mk_tus_x k (by omega)
    have hq3 := hq2.a5 (f := va_cpy (fun j => ([20, 63, 0, 1, 0, 3, 2, 4, 2, 0] : List Int32).getD j 0) (M1 5) 0 0 4)
    have hf3 : mk_kfx M (mj_a M1 5 (va_cpy (fun j => ([20, 63, 0, 1, 0, 3, 2, 4, 2, 0] : List Int32).getD j 0) (M1 5) 0 0 4)) := hf2.f (fun c _ h2 => nw_a9 _ h2)
    have g41 : ∀ k, mj_a M1 5 (va_cpy (fun j => ([20, 63, 0, 1, 0, 3, 2, 4, 2, 0] : List Int32).getD j 0) (M1 5) 0 0 4) 41 k = M1 41 k := fun k => by rw [nw_a9 _ (by omega)]
    have g43 : mj_a M1 5 (va_cpy (fun j => ([20, 63, 0, 1, 0, 3, 2, 4, 2, 0] : List Int32).getD j 0) (M1 5) 0 0 4) 4 3 = M1 4 3 := by rw [nw_a9 _ (by omega)]
    rw [e0, mk_tw_0, mk_bs, mk_keR, mk_bs]
    generalize mj_a M1 5 (va_cpy (fun j => ([20, 63, 0, 1, 0, 3, 2, 4, 2, 0] : List Int32).getD j 0) (M1 5) 0 0 4) = M2 at *
    refine ⟨_, ⟨(((hq3.u (by omega)).u (by omega)).u (by omega)).u (by omega), ?_, ?_, (((hf3.u (by omega)).u (by omega)).u (by omega)).u (by omega)⟩, rfl⟩
    · simp (disch := omega) only [nw_u9]
      rw [g43, e43]
      rfl
    · refine ⟨?_, ?_, fun k hk => ?_, fun h hh => absurd hh (Nat.not_lt_zero _), fun h hh => absurd hh (Nat.not_lt_zero _)⟩
      · simp (disch := omega) only [mj_u_eq, mj_up_ne]
        rw [g41, e41 0 (by omega)]
        rfl
      · simp (disch := omega) only [mj_u_eq, mj_up_ne]
        rw [g41, e41 1 (by omega)]
        rfl
      · have y := hv k hk
        show _ = nI (mk_tus k)
        rcases (show k = 0 ∨ k = 1 ∨ k = 2 ∨ k = 3 by omega) with rfl | rfl | rfl | rfl
        · simp (disch := omega) only [mj_u_eq, mj_up_ne, mj_up_eq, Nat.reduceAdd]
          exact y
        · simp (disch := omega) only [mj_u_eq, mj_up_ne, mj_up_eq, Nat.reduceAdd]
          exact y
        · simp (disch := omega) only [mj_u_eq, mj_up_ne, mj_up_eq, Nat.reduceAdd]
          exact y
        · simp (disch := omega) only [mj_u_eq, mj_up_ne, mj_up_eq, Nat.reduceAdd]
          exact y
  have eM : ∀ M, mk_mt1 τ z M → ∃ M1, mk_km τ z M mk_K0 0 M1 ∧ F_M_readCoast N M = F_M_readCoast_b49 N N (nI (mk_K0 4 3)) (1 : Int32) M1 := by
    intro M h
    obtain ⟨M1, x1, x2, x3⟩ := mk_b24m (N := N) 4 0 N (mj_u (mj_u (mj_u (mj_u M 48 3 (0 : Int32)) 48 4 (-1 : Int32)) 48 20 (0 : Int32)) 48 21 (0 : Int32)) (by omega) (by omega) (fun k hk => absurd hk (Nat.not_lt_zero _))
    have hm := (((h.u (c := 48) (k := 3) (v := (0 : Int32)) (by omega)).u (c := 48) (k := 4) (v := (-1 : Int32)) (by omega)).u (c := 48) (k := 20) (v := (0 : Int32)) (by omega)).u (c := 48) (k := 21) (v := (0 : Int32)) (by omega)
    have hf : mk_kfm M M := fun _ _ _ => rfl
    have hf2 := (((hf.u (c := 48) (k := 3) (v := (0 : Int32)) (by omega)).u (c := 48) (k := 4) (v := (-1 : Int32)) (by omega)).u (c := 48) (k := 20) (v := (0 : Int32)) (by omega)).u (c := 48) (k := 21) (v := (0 : Int32)) (by omega)
    refine ⟨M1, ⟨⟨⟨hm.1, by rw [x2 48 (by omega)]; exact hm.2.1, fun k hk => by rw [x2 49 (by omega)]; exact hm.2.2 k hk⟩, Nat.zero_le _, ?_, ?_⟩, ⟨?_, ?_, x1, fun k hk => absurd hk (Nat.not_lt_zero _), fun k hk => absurd hk (Nat.not_lt_zero _)⟩, fun c k hc => by rw [x2 c (by omega)]; exact hf2 c k hc⟩, x3⟩
    · rw [x2 48 (by omega)]
      simp (disch := omega) only [mj_u_eq, mj_up_ne, mj_up_eq]
      rfl
    · rw [x2 48 (by omega)]
      simp (disch := omega) only [mj_u_eq, mj_up_ne, mj_up_eq]
      rfl
    · rw [x2 48 (by omega)]
      simp (disch := omega) only [mj_u_eq, mj_up_ne, mj_up_eq]
      rfl
    · rw [x2 48 (by omega)]
      simp (disch := omega) only [mj_u_eq, mj_up_ne, mj_up_eq]
      rfl
  obtain ⟨n, hn⟩ : ∃ k, N = k + 1 := ⟨N - 1, by omega⟩
  have fN : ∀ M, F_M_readCoast_b49 N N (nI (mk_K0 4 3)) (1 : Int32) M = F_M_readCoast_b49 N (n + 1) (nI (mk_K0 4 3)) (1 : Int32) M := fun M => by
    have e : ∀ m, m = n + 1 → F_M_readCoast_b49 N m (nI (mk_K0 4 3)) (1 : Int32) M = F_M_readCoast_b49 N (n + 1) (nI (mk_K0 4 3)) (1 : Int32) M := fun m h => by rw [h]
    exact e N hn
  rcases mk_Kcl (p := 0) hN hz (Nat.zero_le _) mk_kw0 with ⟨K', q1, q2, a1, a2, a3, a4, a5, a6, a7⟩ | ⟨w, a1, a2, a3⟩
  · rcases mk_Klp hN hz (z - q1 + 1) K' q1 q2 0 N n (by omega) (by omega) a2 a3 a4 (by omega) (by omega) a5 with ⟨K2, b1, b2, b3, b4, b5, b6⟩ | ⟨w, b1, b2, b3⟩
    · refine Or.inl ⟨K2, b1, b2, b3, b4, fun M h => ?_, fun M h => ?_⟩
      · obtain ⟨M1, x1, x2⟩ := eX M h
        obtain ⟨M2, x3, x4⟩ := a6 M M1 x1
        obtain ⟨M3, x5, x6⟩ := b5 M M2 x4
        exact ⟨M3, by rw [x2, x3, mk_bs, x5], x6⟩
      · obtain ⟨M1, x1, x2⟩ := eM M h
        obtain ⟨M2, x3, x4⟩ := a7 M M1 n x1
        obtain ⟨M3, x5, x6⟩ := b6 M M2 x4
        exact ⟨M3, by rw [x2, fN, x3, x5], x6⟩
    · refine Or.inr ⟨w, b1, fun M h => ?_, fun M h => ?_⟩
      · obtain ⟨M1, x1, x2⟩ := eX M h
        obtain ⟨M2, x3, x4⟩ := a6 M M1 x1
        obtain ⟨M3, x5, x6⟩ := b2 M M2 x4
        exact ⟨M3, by rw [x2, x3, mk_bs, x5], x6⟩
      · obtain ⟨M1, x1, x2⟩ := eM M h
        obtain ⟨M2, x3, x4⟩ := a7 M M1 n x1
        obtain ⟨M3, x5, x6⟩ := b3 M M2 x4
        exact ⟨M3, by rw [x2, fN, x3, x5], x6⟩
  · obtain ⟨n', hn'⟩ : ∃ k, n = k + 1 := ⟨n - 1, by omega⟩
    refine Or.inr ⟨w, a1, fun M h => ?_, fun M h => ?_⟩
    · obtain ⟨M1, x1, x2⟩ := eX M h
      obtain ⟨M2, x3, x4⟩ := a2 M M1 x1
      have e := x4.lp (N := N) n (nI 0)
      rw [← hn] at e
      exact ⟨M2, by rw [x2, x3, mk_bs, e], x4⟩
    · obtain ⟨M1, x1, x2⟩ := eM M h
      obtain ⟨M2, x, x3, x4⟩ := a3 M M1 n x1
      obtain ⟨M3, x5, x6⟩ := x4.lp (N := N) n' x
      rw [← hn'] at x5
      exact ⟨M3, by rw [x2, fN, x3, x5], x6⟩
theorem mk_X.kf (h : mk_X S A M) (k : mk_kfx M M') (k1 : M' 2 1 = M 2 1) : mk_X S A M' := by
  have f : ∀ c, c ≠ 2 ∧ c ≠ 4 ∧ c ≠ 5 ∧ ¬ (41 ≤ c ∧ c ≤ 47) → M' c = M c := fun c hc => k c hc.1 hc.2.1 hc.2.2.1 hc.2.2.2
  unfold mk_X at h ⊢
  rw [k1, f 0 (by omega), f 1 (by omega), f 3 (by omega), f 8 (by omega), f 10 (by omega), f 11 (by omega), f 13 (by omega), f 14 (by omega), f 15 (by omega), f 16 (by omega), f 17 (by omega), f 18 (by omega), f 19 (by omega), f 20 (by omega), f 21 (by omega), f 22 (by omega), f 23 (by omega), f 24 (by omega), f 25 (by omega), f 26 (by omega), f 27 (by omega), f 29 (by omega), f 30 (by omega), f 31 (by omega), f 32 (by omega)]
  exact h
theorem mk_kfx.fx (k : mk_kfx M M') : mk_fx M M' := fun c hc => k c (by omega) (by omega) (by omega) (by omega)
theorem mk_kfm.fm (k : mk_kfm M M') : mk_fm M M' := fun c hc => funext fun j => k c j (by omega)
theorem mk_M.kf (h : mk_M S A M) (k : mk_kfm M M') : mk_M S A M' := h.sc (fun c j hc => k c j (by unfold mk_sm at hc; omega))
theorem mk_fault0 (hN : 1000 ≤ N) (hw : mk_W S A) (hX : mk_X S A M) (hM : mk_M S A M) : ∃ r M1 M2, F_W_fault N (0 : Int32) M = some (r, M1) ∧ F_M_fault N (0 : Int32) M1 = some (r, M2) ∧ mk_I M2 := by
  rcases mk_Acoast hN (mk_Xtp hX hw).1 with ⟨K, k1, k2, k3, k4, a2, a3⟩ | ⟨w, a1, a2, a3⟩
  · refine mk_fin (S' := S) (A' := A) (r := -nI 1) hw hX hM (fun M hX => ?_) (fun M hM => ?_)
    · obtain ⟨M1, x1, x2, x3, x4⟩ := a2 M (mk_Xtp hX hw)
      refine ⟨M1, ?_, hX.kf x4 (x3.trans hX.size.symm), x4.fx⟩
      rw [F_W_fault, if_pos rfl, x1, mk_bs]
    · obtain ⟨M1, x1, x2, x3⟩ := a3 M (mk_Mtp hM hw)
      refine ⟨M1, ?_, hM.kf x3, x3.fm⟩
      rw [F_M_fault, if_pos rfl, x1, mk_bs]
  · refine mk_fin (S' := S) (A' := A) (r := nI w) hw hX hM (fun M hX => ?_) (fun M hM => ?_)
    · obtain ⟨M1, x1, x2⟩ := a2 M (mk_Xtp hX hw)
      refine ⟨M1, ?_, hX.kf x2.2.2.2 (x2.2.2.1.trans hX.size.symm), x2.2.2.2.fx⟩
      rw [F_W_fault, if_pos rfl, x1, mk_bs]
    · obtain ⟨M1, x1, x2⟩ := a3 M (mk_Mtp hM hw)
      refine ⟨M1, ?_, hM.kf x2.2.2, x2.2.2.fm⟩
      rw [F_M_fault, if_pos rfl, x1, mk_bs]
end CoastA
theorem op_2 {N : Nat} (hN : 10000 ≤ N) : mo_2 N mk_I := by
  intro M ⟨S, A, hw, hX, hM⟩ a
  by_cases c0 : a = 0
  · subst c0
    exact mk_fault0 (by omega) hw hX hM
  by_cases c1 : a = 1
  · subst c1
    exact mk_fault1 (by omega) hw hX hM
  refine mk_fin (r := -2) hw hX hM (mk_QX.same fun M hX => ?_) (mk_QM.same fun M hM => ?_)
  · rw [F_W_fault, if_neg c0, if_neg c1]
  · rw [F_M_fault, if_neg c0, if_neg c1]
