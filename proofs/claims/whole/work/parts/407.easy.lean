/-! ===== the pure side: small acts and questions ===== -/
theorem nw_gt {a : Int32} {n : Nat} (h : nI (n + 1) ≤ a) (hn : n + 1 < 2 ^ 31) : nI n < a ∧ ¬ a ≤ nI n ∧ (∀ k, k ≤ n → ¬ a = nI k) := by
  have h1 := Int32.le_iff_toInt_le.mp h
  rw [nI_toInt hn] at h1
  refine ⟨Int32.lt_iff_toInt_lt.mpr (by rw [nI_toInt (by omega)]; omega), fun k => ?_, fun k hk e => ?_⟩
  · have := Int32.le_iff_toInt_le.mp k
    rw [nI_toInt (by omega)] at this
    omega
  · rw [e, nI_toInt (by omega)] at h1
    omega
theorem nw_ne0 {a : Int32} (h : a < 0) (k : Nat) (hk : k < 2 ^ 31) : ¬ a = nI k := fun e => nI_pos hk (e ▸ h)
theorem nw_nk {a : Int32} {n : Nat} (h : a < 0 ∨ nI n ≤ a) (hn : n < 2 ^ 31) (k : Nat) (hk : k < n) : ¬ a = nI k := by
  rcases h with h | h
  · exact nw_ne0 h k (by omega)
  · cases n with
    | zero => omega
    | succ n => exact (nw_gt h hn).2.2 k (by omega)
section Easy
variable {N : Nat} {S : mk_S} {A : mk_L} {M : mj_M}
theorem mk_Mino {a : Int32} {n : Nat} (h : a < 0 ∨ nI (n + 1) ≤ a) (hn : n + 1 < 2 ^ 31) : F_M_in a (nI 0) (nI n) M = some (nI 0, M) := by
  rw [mk_Min, if_pos]
  · rfl
  · rcases h with h | h
    · exact Or.inl h
    · exact Or.inr (nw_gt h hn).1
theorem mk_Mini {n j : Nat} (h : j ≤ n) (hn : n + 1 < 2 ^ 31) : F_M_in (nI j) (nI 0) (nI n) M = some (nI 1, M) := by
  rw [mk_Min, if_neg]
  · rfl
  · rintro (h | h)
    · exact nI_pos (by omega) h
    · exact nI_nlt (by omega) (by omega) h
theorem mk_Mlo {n j lo : Nat} (h : j ≤ n) (h' : lo ≤ j) (hn : n + 1 < 2 ^ 31) : F_M_in (nI j) (nI lo) (nI n) M = some (nI 1, M) := by
  rw [mk_Min, if_neg]
  · rfl
  · rintro (h | h)
    · exact nI_nlt (by omega) (by omega) h
    · exact nI_nlt (by omega) (by omega) h
/-- an argument that is none of lo .. n -/
theorem mk_Mloo {a : Int32} {n lo : Nat} (h : a < nI lo ∨ nI (n + 1) ≤ a) (hn : n + 1 < 2 ^ 31) : F_M_in a (nI lo) (nI n) M = some (nI 0, M) := by
  rw [mk_Min, if_pos]
  · rfl
  · rcases h with h | h
    · exact Or.inl h
    · exact Or.inr (nw_gt h hn).1
end Easy
theorem op_1 {N : Nat} : mo_1 N mk_I := by
  intro M ⟨S, A, hw, hX, hM⟩ a
  have hs := hw.size
  rcases mk_ix a (n := S 48 2 + 1) (by omega) with h | ⟨j, hj, rfl⟩
  · refine mk_fin (r := 0) hw hX hM (mk_QX.same fun M hX => ?_) (mk_QM.same fun M hM => ?_)
    · unfold F_W_end
      rw [hX.size]
      by_cases c : a < 0
      · rw [if_pos c]
      · rw [if_neg c, if_neg (nw_gt (h.resolve_left c) (by omega)).2.1]
    · unfold F_M_end
      rw [hM.size]
      by_cases c : a < 0
      · rw [if_pos c]
      · rw [if_neg c, if_neg (nw_gt (h.resolve_left c) (by omega)).2.1]
  · refine mk_fin (S' := mk_u S 48 2 j) (A' := A) (r := 1) ?_ hX hM (fun M hX => ?_) (fun M hM => ?_)
    · unfold mk_W
      simp (disch := omega) only [mk_un1, mk_u_eq, mj_up_eq, mj_up_ne]
      exact ⟨hw.h6, hw.t6, hw.ht, by omega, fun k hk => hw.byte k (by omega), hw.laws, hw.hold, hw.why, hw.kept, hw.sights, hw.img, hw.next, hw.often, hw.house, hw.tale, hw.now, hw.rows, hw.kh, hw.image, hw.seen, hw.wl, hw.chain⟩
    · unfold F_W_end
      rw [hX.size, if_neg (nI_pos (by omega)), if_pos (nI_le (by omega) (by omega))]
      refine ⟨_, rfl, ?_, mk_fx.rf.u (by omega)⟩
      unfold mk_X
      simp (disch := omega) only [nw_u9, mj_u_eq, mj_up_eq, mj_up_ne, nw_a9, nw_ae, mk_un1, mk_u_eq]
      exact ⟨hX.why, hX.ref, trivial, fun k hk => hX.tape k (by omega), hX.laws, hX.hold, hX.lens, hX.codes, hX.hs, hX.ts, hX.often, hX.known, hX.cur, hX.warm, hX.len, hX.kn, hX.tru, hX.now, hX.ring, hX.kept, hX.img, hX.next, hX.rows, hX.image, hX.sights, hX.sh, hX.sb, hX.si⟩
    · unfold F_M_end
      rw [hM.size, if_neg (nI_pos (by omega)), if_pos (nI_le (by omega) (by omega))]
      refine ⟨_, rfl, ?_, mk_fm.rf.u (by omega)⟩
      unfold mk_M
      simp (disch := omega) only [nw_u9, mj_u_eq, mj_up_eq, mj_up_ne, nw_a9, nw_ae, mk_un1, mk_u_eq]
      exact ⟨trivial, hM.laws, hM.hs, hM.ts, hM.hold, hM.why, hM.kept, hM.sights, hM.img, fun k hk => hM.tape k (by omega), hM.lens, fun n hn => mk_cl_cg (nw_u9 _ (by omega)) (nw_u9 _ (by omega)) (nw_u9 _ (by omega)) (nw_u9 _ (by omega)) (nw_u9 _ (by omega)) _ _ _ (hM.codes n hn), hM.often, hM.house, hM.tale, hM.now, hM.ref, hM.rows, hM.sh, hM.sb, hM.si, hM.image⟩
theorem op_8 {N : Nat} : mo_8 N mk_I := by
  intro M ⟨S, A, hw, hX, hM⟩ a
  have hl := hw.laws
  have key : ∀ j, j ≤ S 48 13 → a = nI j - nI 1 → (∀ M, mk_X S A M → F_W_law a M = some (1, mj_u M 8 1 a)) → (∀ M, mk_M S A M → F_M_law a M = some (1, mj_u M 48 29 a)) → ∃ r M1 M2, F_W_law a M = some (r, M1) ∧ F_M_law a M1 = some (r, M2) ∧ mk_I M2 := by
    intro j hj e hx hm
    refine mk_fin (S' := mk_u S 48 29 j) (A' := A) (r := 1) ?_ hX hM (fun M hX => ?_) (fun M hM => ?_)
    · unfold mk_W
      simp (disch := omega) only [mk_un1, mk_u_eq, mj_up_eq, mj_up_ne]
      exact ⟨hw.h6, hw.t6, hw.ht, hw.size, hw.byte, hw.laws, by omega, hw.why, hw.kept, hw.sights, hw.img, hw.next, hw.often, hw.house, hw.tale, hw.now, hw.rows, hw.kh, hw.image, hw.seen, hw.wl, hw.chain⟩
    · rw [hx M hX]
      refine ⟨_, rfl, ?_, mk_fx.rf.u (by omega)⟩
      unfold mk_X
      simp (disch := omega) only [nw_u9, mj_u_eq, mj_up_eq, mj_up_ne, nw_a9, nw_ae, mk_un1, mk_u_eq]
      exact ⟨hX.why, hX.ref, hX.size, hX.tape, hX.laws, e, hX.lens, hX.codes, hX.hs, hX.ts, hX.often, hX.known, hX.cur, hX.warm, hX.len, hX.kn, hX.tru, hX.now, hX.ring, hX.kept, hX.img, hX.next, hX.rows, hX.image, hX.sights, hX.sh, hX.sb, hX.si⟩
    · rw [hm M hM]
      refine ⟨_, rfl, ?_, mk_fm.rf.u (by omega)⟩
      unfold mk_M
      simp (disch := omega) only [nw_u9, mj_u_eq, mj_up_eq, mj_up_ne, nw_a9, nw_ae, mk_un1, mk_u_eq]
      exact ⟨hM.size, hM.laws, hM.hs, hM.ts, e, hM.why, hM.kept, hM.sights, hM.img, hM.tape, hM.lens, fun n hn => mk_cl_cg (nw_u9 _ (by omega)) (nw_u9 _ (by omega)) (nw_u9 _ (by omega)) (nw_u9 _ (by omega)) (nw_u9 _ (by omega)) _ _ _ (hM.codes n hn), hM.often, hM.house, hM.tale, hM.now, hM.ref, hM.rows, hM.sh, hM.sb, hM.si, hM.image⟩
  by_cases c : a = -nI 1
  · refine key 0 (by omega) (by rw [c]; rfl) (fun M hX => ?_) (fun M hM => ?_)
    · unfold F_W_law
      rw [c, hX.laws, if_neg (by decide +kernel), if_pos (by simp (disch := omega) only [nw_mlt])]
      rfl
    · unfold F_M_law
      rw [mk_Min, c, hM.laws, if_neg]
      · simp only [Option.bind_some]
        rw [if_neg (by decide +kernel)]
        rfl
      · rintro (h | h)
        · exact absurd h (by decide +kernel)
        · cases hn : S 48 13 with
          | zero => rw [hn] at h; exact absurd h (by decide +kernel)
          | succ n =>
            rw [hn, nI_pred] at h
            simp (disch := omega) only [nw_ltm] at h
  rcases mk_ix a (n := S 48 13) (by omega) with h | ⟨j, hj, rfl⟩
  · have h' : a < -nI 1 ∨ nI (S 48 13) ≤ a := by
      rcases h with h | h
      · refine Or.inl ?_
        have h1 := Int32.lt_iff_toInt_lt.mp h
        apply Int32.lt_iff_toInt_lt.mpr
        have h2 : a.toInt ≠ (-nI 1 : Int32).toInt := fun e => c (Int32.toInt_inj.mp e)
        rw [nw_m1T] at h2 ⊢
        rw [show (0 : Int32).toInt = 0 from rfl] at h1
        omega
      · exact Or.inr h
    refine mk_fin (r := 0) hw hX hM (mk_QX.same fun M hX => ?_) (mk_QM.same fun M hM => ?_)
    · unfold F_W_law
      rw [hX.laws]
      by_cases d : a < -1
      · rw [if_pos d]
      · rw [if_neg d, if_neg]
        intro k
        have h1 := Int32.lt_iff_toInt_lt.mp k
        have h2 := Int32.le_iff_toInt_le.mp (h'.resolve_left d)
        omega
    · unfold F_M_law
      rw [mk_Min, hM.laws, if_pos]
      · rfl
      · rcases h' with h' | h'
        · exact Or.inl h'
        · exact Or.inr (nw_pl h' (by omega))
  · refine key (j + 1) (by omega) (nI_pred j).symm (fun M hX => ?_) (fun M hM => ?_)
    · unfold F_W_law
      rw [nl_m1, hX.laws, if_neg (by simp (disch := omega) only [nw_ltm]; trivial), if_pos (nI_lt hj (by omega))]
      rfl
    · unfold F_M_law
      rw [mk_Min, hM.laws, nl_m1, if_neg]
      · simp only [Option.bind_some]
        rw [if_neg (by decide +kernel)]
        rfl
      · rintro (h | h)
        · simp (disch := omega) only [nw_ltm] at h
        · rw [nl_1, pk_sub (by omega)] at h
          exact nI_nlt (by omega) (by omega) h
theorem op_15 {N : Nat} : mo_15 N mk_I := by
  intro M ⟨S, A, hw, hX, hM⟩ a
  have hy := hw.why
  rcases mk_ix a (n := 10) (by omega) with h | ⟨j, hj, rfl⟩
  · refine mk_fin (r := 0) hw hX hM (mk_QX.same fun M hX => ?_) (mk_QM.same fun M hM => ?_)
    · unfold F_W_whys
      by_cases c : a < 0
      · rw [if_pos c]
      · rw [nl_9, if_neg c, if_pos (nw_gt (h.resolve_left c) (by omega)).1]
    · unfold F_M_whys
      rw [nl_0, nl_9, mk_Mino h (by omega)]
      rfl
  · by_cases c : j = S 48 30
    · refine mk_fin (r := 0) hw hX hM (mk_QX.same fun M hX => ?_) (mk_QM.same fun M hM => ?_)
      · unfold F_W_whys
        rw [hX.why, if_neg (nI_pos (by omega)), nl_9, if_neg (nI_nlt (by omega) (by omega)), if_pos (by rw [c])]
      · unfold F_M_whys
        rw [nl_0, nl_9, mk_Mini (by omega) (by omega)]
        simp only [Option.bind_some]
        rw [if_neg (by decide +kernel), hM.why, if_pos (by rw [c])]
    · refine mk_fin (S' := mk_u S 48 30 j) (A' := A) (r := 1) ?_ hX hM (fun M hX => ?_) (fun M hM => ?_)
      · unfold mk_W
        simp (disch := omega) only [mk_un1, mk_u_eq, mj_up_eq, mj_up_ne]
        exact ⟨hw.h6, hw.t6, hw.ht, hw.size, hw.byte, hw.laws, hw.hold, by omega, hw.kept, hw.sights, hw.img, hw.next, hw.often, hw.house, hw.tale, hw.now, hw.rows, hw.kh, hw.image, hw.seen, hw.wl, hw.chain⟩
      · unfold F_W_whys
        rw [hX.why, if_neg (nI_pos (by omega)), nl_9, if_neg (nI_nlt (by omega) (by omega)), if_neg (by rw [nw_eq (by omega) (by omega)]; exact c)]
        refine ⟨_, rfl, ?_, mk_fx.rf.u (by omega)⟩
        unfold mk_X
        simp (disch := omega) only [nw_u9, mj_u_eq, mj_up_eq, mj_up_ne, nw_a9, nw_ae, mk_un1, mk_u_eq]
        exact ⟨trivial, hX.ref, hX.size, hX.tape, hX.laws, hX.hold, hX.lens, hX.codes, hX.hs, hX.ts, hX.often, hX.known, hX.cur, hX.warm, hX.len, hX.kn, hX.tru, hX.now, hX.ring, hX.kept, hX.img, hX.next, hX.rows, hX.image, hX.sights, hX.sh, hX.sb, hX.si⟩
      · unfold F_M_whys
        rw [nl_0, nl_9, mk_Mini (by omega) (by omega)]
        simp only [Option.bind_some]
        rw [if_neg (by decide +kernel), hM.why, if_neg (by rw [nw_eq (by omega) (by omega)]; exact c)]
        refine ⟨_, rfl, ?_, mk_fm.rf.u (by omega)⟩
        unfold mk_M
        simp (disch := omega) only [nw_u9, mj_u_eq, mj_up_eq, mj_up_ne, nw_a9, nw_ae, mk_un1, mk_u_eq]
        exact ⟨hM.size, hM.laws, hM.hs, hM.ts, hM.hold, trivial, hM.kept, hM.sights, hM.img, hM.tape, hM.lens, fun n hn => mk_cl_cg (nw_u9 _ (by omega)) (nw_u9 _ (by omega)) (nw_u9 _ (by omega)) (nw_u9 _ (by omega)) (nw_u9 _ (by omega)) _ _ _ (hM.codes n hn), hM.often, hM.house, hM.tale, hM.now, hM.ref, hM.rows, hM.sh, hM.sb, hM.si, hM.image⟩
theorem op_17 {N : Nat} : mo_17 N mk_I := by
  intro M ⟨S, A, hw, hX, hM⟩ a
  rcases mk_ix a (n := 5) (by omega) with h | ⟨j, hj, rfl⟩
  · refine mk_fin (r := -1) hw hX hM (mk_QX.same fun M hX => ?_) (mk_QM.same fun M hM => ?_)
    · unfold F_W_status
      by_cases c : a < 0
      · rw [if_pos c]
      · rw [nl_5, if_neg c, if_pos (h.resolve_left c)]
    · unfold F_M_status
      rw [nl_0, nl_4, mk_Mino h (by omega)]
      rfl
  · refine mk_fin (r := nI (S 66 j)) hw hX hM (mk_QX.same fun M hX => ?_) (mk_QM.same fun M hM => ?_)
    · unfold F_W_status
      rw [if_neg (nI_pos (by omega)), nl_5, if_neg (nI_ge (by omega) (by omega)), nw_ck (by omega) (by omega), nI_clamp (by omega), hX.ref j hj]
    · unfold F_M_status
      rw [nl_0, nl_4, mk_Mini (by omega) (by omega)]
      simp only [Option.bind_some]
      rw [if_neg (by decide +kernel), nw_ck (by omega) (by omega), nI_clamp (by omega), hM.ref j hj]
theorem op_6 {N : Nat} : mo_6 N mk_I := by
  intro M ⟨S, A, hw, hX, hM⟩ a b
  have h6 := hw.h6
  have t6 := hw.t6
  rcases mk_ix a (n := S 48 25) (by omega) with h | ⟨h, hh, rfl⟩
  · refine mk_fin (r := -1) hw hX hM (mk_QX.same fun M hX => ?_) (mk_QM.same fun M hM => ?_)
    · unfold F_W_heard; rw [mk_Xb0 hX hw (Or.inl h)]; rfl
    · unfold F_M_heard; rw [mk_Mh0 hM hw h]; rfl
  rcases mk_ix b (n := S 48 26) (by omega) with h' | ⟨t, ht, rfl⟩
  · refine mk_fin (r := -1) hw hX hM (mk_QX.same fun M hX => ?_) (mk_QM.same fun M hM => ?_)
    · unfold F_W_heard; rw [mk_Xb0 hX hw (Or.inr h')]; rfl
    · unfold F_M_heard; rw [mk_Mh1 hM hw hh]
      simp only [Option.bind_some]
      rw [if_neg (by decide +kernel), mk_Mt0 hM hw h']; rfl
  refine mk_fin (r := nI (S 65 (h * 6 + t))) hw hX hM (mk_QX.same fun M hX => ?_) (mk_QM.same fun M hM => ?_)
  · unfold F_W_heard
    rw [mk_Xb1 hX hw hh ht]
    simp only [Option.bind_some]
    rw [if_neg (by decide +kernel), nl_6, pk_mul, nI_add, nw_ck (by omega) (by omega), nI_clamp (by omega), hX.now.heard _ (by omega)]
  · unfold F_M_heard
    rw [mk_Mh1 hM hw hh]
    simp only [Option.bind_some]
    rw [if_neg (by decide +kernel), mk_Mt1 hM hw ht]
    simp only [Option.bind_some]
    rw [if_neg (by decide +kernel), mk_Mheard hw hM hh ht]; rfl
theorem op_7 {N : Nat} (hN : 1000 ≤ N) : mo_7 N mk_I := by
  intro M ⟨S, A, hw, hX, hM⟩ a b
  have h6 := hw.h6
  have t6 := hw.t6
  rcases mk_ix a (n := S 48 25) (by omega) with h | ⟨h, hh, rfl⟩
  · refine mk_fin (r := -1) hw hX hM (mk_QX.same fun M hX => ?_) (mk_QM.same fun M hM => ?_)
    · unfold F_W_nights; rw [mk_Xb0 hX hw (Or.inl h)]; rfl
    · unfold F_M_nights; rw [mk_Mh0 hM hw h]; rfl
  rcases mk_ix b (n := S 48 26) (by omega) with h' | ⟨t, ht, rfl⟩
  · refine mk_fin (r := -1) hw hX hM (mk_QX.same fun M hX => ?_) (mk_QM.same fun M hM => ?_)
    · unfold F_W_nights; rw [mk_Xb0 hX hw (Or.inr h')]; rfl
    · unfold F_M_nights; rw [mk_Mh1 hM hw hh]
      simp only [Option.bind_some]
      rw [if_neg (by decide +kernel), mk_Mt0 hM hw h']; rfl
  refine mk_fin (r := nI (mk_now S A h t)) hw hX hM (fun M hX => ?_) (fun M hM => ?_)
  · obtain ⟨M', e, f⟩ := mk_Xnow hN hw hX hh ht
    refine ⟨M', ?_, hX.sc fun c hc => f c (by unfold mk_sx at hc; omega) (by unfold mk_sx at hc; omega), fun c hc => f c (by omega) (by omega)⟩
    unfold F_W_nights
    rw [mk_Xb1 hX hw hh ht]
    simp only [Option.bind_some]
    rw [if_neg (by decide +kernel), e]; rfl
  · obtain ⟨M', e, f⟩ := mk_Mnow hN hw hM hh ht
    refine ⟨M', ?_, hM.sc fun c j hc => congrFun (f c (by unfold mk_sm at hc; omega) (by unfold mk_sm at hc; omega)) j, fun c hc => f c (by omega) (by omega)⟩
    unfold F_M_nights
    rw [mk_Mh1 hM hw hh]
    simp only [Option.bind_some]
    rw [if_neg (by decide +kernel), mk_Mt1 hM hw ht]
    simp only [Option.bind_some]
    rw [if_neg (by decide +kernel), e]; rfl
