/-! ===== the pure side: most ===== -/
def mk_hg (f : Nat → Nat) : Nat → Nat → Nat := fun i s => if f i ≤ f s then s else i
def mk_hi (f : Nat → Nat) (b : Nat) : Nat := mk_fo (mk_hg f) (b - 1) 1 0
section Most
variable {N : Nat} {S : mk_S} {A : mk_L}
theorem mk_Xhigh17 (hN : 1000 ≤ N) (hw : mk_W S A) {M : mj_M} (hX : mk_X S A M) (h0 : 0 < S 48 26) : F_W_highest_c17 N (nI (S 48 26)) M = some (nI (mk_hi (fun t => S 64 (3 * t)) (S 48 26)), M) := by
  have h6 := hw.h6
  have t6 := hw.t6
  unfold F_W_highest_c17
  obtain ⟨M', p, q⟩ := mk_lp (L := fun n s i M => F_W_highest_c17_b4 N n (nI (S 48 26)) (nI s) (nI i) M) (S 48 26) (mk_hg (fun t => S 64 (3 * t))) (fun _ s M1 => M1 = M ∧ s < S 48 26) (fun s M => some (nI s, M))
    (fun n s M1 p => by rw [F_W_highest_c17_b4, if_pos (Int32.le_refl _)])
    (fun n s i M1 hi p => by
      obtain ⟨rfl, hs⟩ := p
      have b1 := hw.tale i hi
      have b2 := hw.tale s hs
      refine ⟨M1, ⟨rfl, by unfold mk_hg; split <;> assumption⟩, ?_⟩
      rw [F_W_highest_c17_b4, if_neg (nI_ge hi (by omega)), nl_6, if_neg (nI_ge (by omega) (by omega)), nw_ck (by omega) (by omega), nw_ck (by omega) (by omega), nI_clamp (by omega), nI_clamp (by omega), hX.len i hi, hX.len s hs, nI_1]
      simp (disch := omega) only [nw_le]
      unfold mk_hg
      split <;> rfl)
    (S 48 26 - 1) 1 N 0 M (by omega) (by omega) ⟨rfl, h0⟩
  obtain ⟨rfl, -⟩ := p
  exact q
theorem mk_Xhigh21 (hN : 1000 ≤ N) (hw : mk_W S A) {M : mj_M} (hX : mk_X S A M) (h0 : 0 < S 48 26) : F_W_highest_c21 N (nI (S 48 26)) M = some (nI (mk_hi (fun t => S 65 (36 + t)) (S 48 26)), M) := by
  have h6 := hw.h6
  have t6 := hw.t6
  unfold F_W_highest_c21
  obtain ⟨M', p, q⟩ := mk_lp (L := fun n s i M => F_W_highest_c21_b4 N n (nI (S 48 26)) (nI s) (nI i) M) (S 48 26) (mk_hg (fun t => S 65 (36 + t))) (fun _ s M1 => M1 = M ∧ s < S 48 26) (fun s M => some (nI s, M))
    (fun n s M1 p => by rw [F_W_highest_c21_b4, if_pos (Int32.le_refl _)])
    (fun n s i M1 hi p => by
      obtain ⟨rfl, hs⟩ := p
      have b1 := hw.now.knots i hi
      have b2 := hw.now.knots s hs
      refine ⟨M1, ⟨rfl, by unfold mk_hg; split <;> assumption⟩, ?_⟩
      rw [F_W_highest_c21_b4, if_neg (nI_ge hi (by omega)), nl_6, if_neg (nI_ge (by omega) (by omega)), nw_ck (by omega) (by omega), nw_ck (by omega) (by omega), nI_clamp (by omega), nI_clamp (by omega), hX.now.knots i hi, hX.now.knots s hs, nI_1]
      simp (disch := omega) only [nw_le]
      unfold mk_hg
      split <;> rfl)
    (S 48 26 - 1) 1 N 0 M (by omega) (by omega) ⟨rfl, h0⟩
  obtain ⟨rfl, -⟩ := p
  exact q
theorem mk_Xhigh15 (hN : 1000 ≤ N) (hw : mk_W S A) {M : mj_M} (hX : mk_X S A M) (h0 : 0 < S 48 25) : F_W_highest_c15 N (nI (S 48 25)) M = some (nI (mk_hi (fun t => S 63 (3 * t + 1)) (S 48 25)), M) := by
  have h6 := hw.h6
  have t6 := hw.t6
  unfold F_W_highest_c15
  obtain ⟨M', p, q⟩ := mk_lp (L := fun n s i M => F_W_highest_c15_b4 N n (nI (S 48 25)) (nI s) (nI i) M) (S 48 25) (mk_hg (fun t => S 63 (3 * t + 1))) (fun _ s M1 => M1 = M ∧ s < S 48 25) (fun s M => some (nI s, M))
    (fun n s M1 p => by rw [F_W_highest_c15_b4, if_pos (Int32.le_refl _)])
    (fun n s i M1 hi p => by
      obtain ⟨rfl, hs⟩ := p
      have b1 := hw.house i hi
      have b2 := hw.house s hs
      refine ⟨M1, ⟨rfl, by unfold mk_hg; split <;> assumption⟩, ?_⟩
      rw [F_W_highest_c15_b4, if_neg (nI_ge hi (by omega)), nl_6, if_neg (nI_ge (by omega) (by omega)), nw_ck (by omega) (by omega), nw_ck (by omega) (by omega), nI_clamp (by omega), nI_clamp (by omega), hX.cur i hi, hX.cur s hs, nI_1]
      simp (disch := omega) only [nw_le]
      unfold mk_hg
      split <;> rfl)
    (S 48 25 - 1) 1 N 0 M (by omega) (by omega) ⟨rfl, h0⟩
  obtain ⟨rfl, -⟩ := p
  exact q
theorem mk_Xhigh16 (hN : 1000 ≤ N) (hw : mk_W S A) {M : mj_M} (hX : mk_X S A M) (h0 : 0 < S 48 25) : F_W_highest_c16 N (nI (S 48 25)) M = some (nI (mk_hi (fun t => S 63 (3 * t + 2)) (S 48 25)), M) := by
  have h6 := hw.h6
  have t6 := hw.t6
  unfold F_W_highest_c16
  obtain ⟨M', p, q⟩ := mk_lp (L := fun n s i M => F_W_highest_c16_b4 N n (nI (S 48 25)) (nI s) (nI i) M) (S 48 25) (mk_hg (fun t => S 63 (3 * t + 2))) (fun _ s M1 => M1 = M ∧ s < S 48 25) (fun s M => some (nI s, M))
    (fun n s M1 p => by rw [F_W_highest_c16_b4, if_pos (Int32.le_refl _)])
    (fun n s i M1 hi p => by
      obtain ⟨rfl, hs⟩ := p
      have b1 := hw.house i hi
      have b2 := hw.house s hs
      refine ⟨M1, ⟨rfl, by unfold mk_hg; split <;> assumption⟩, ?_⟩
      rw [F_W_highest_c16_b4, if_neg (nI_ge hi (by omega)), nl_6, if_neg (nI_ge (by omega) (by omega)), nw_ck (by omega) (by omega), nw_ck (by omega) (by omega), nI_clamp (by omega), nI_clamp (by omega), hX.warm i hi, hX.warm s hs, nI_1]
      simp (disch := omega) only [nw_le]
      unfold mk_hg
      split <;> rfl)
    (S 48 25 - 1) 1 N 0 M (by omega) (by omega) ⟨rfl, h0⟩
  obtain ⟨rfl, -⟩ := p
  exact q
theorem mk_Mtop0 (hN : 1000 ≤ N) (hw : mk_W S A) {M : mj_M} (hM : mk_M S A M) (h0 : 0 < S 48 26) : F_M_topTale N (nI 1) M = some (nI (mk_hi (fun t => S 64 (3 * t)) (S 48 26)), M) := by
  have h6 := hw.h6
  have t6 := hw.t6
  unfold F_M_topTale
  obtain ⟨M', p, q⟩ := mk_lp (L := fun n s i M => F_M_topTale_b4 N n (nI 1) (nI s) (nI i) M) (S 48 26) (mk_hg (fun t => S 64 (3 * t))) (fun _ s M1 => M1 = M ∧ s < S 48 26) (fun s M => some (nI s, M))
    (fun n s M1 p => by
      obtain ⟨rfl, hs⟩ := p
      rw [F_M_topTale_b4, hM.ts, if_pos (Int32.le_refl _)])
    (fun n s i M1 hi p => by
      obtain ⟨rfl, hs⟩ := p
      have b1 := hw.tale i hi
      have b2 := hw.tale s hs
      refine ⟨M1, ⟨rfl, by unfold mk_hg; split <;> assumption⟩, ?_⟩
      rw [F_M_topTale_b4, hM.ts, if_neg (nI_ge hi (by omega))]
      rw [if_neg (by decide +kernel), nl_0, mk_ofTale hM hw hi (by omega)]
      simp only [Option.bind_some]
      rw [mk_ofTale hM hw hs (by omega)]
      simp only [Option.bind_some, Nat.add_zero]
      unfold F_M_topTale_b51
      simp (disch := omega) only [nw_sle, nI_1]
      unfold mk_hg
      split <;> rfl)
    (S 48 26 - 1) 1 N 0 M (by omega) (by omega) ⟨rfl, h0⟩
  obtain ⟨rfl, -⟩ := p
  exact q
theorem mk_Mtop1 (hN : 1000 ≤ N) (hw : mk_W S A) {M : mj_M} (hM : mk_M S A M) (h0 : 0 < S 48 26) : F_M_topTale N (nI 0) M = some (nI (mk_hi (fun t => S 65 (36 + t)) (S 48 26)), M) := by
  have h6 := hw.h6
  have t6 := hw.t6
  unfold F_M_topTale
  obtain ⟨M', p, q⟩ := mk_lp (L := fun n s i M => F_M_topTale_b4 N n (nI 0) (nI s) (nI i) M) (S 48 26) (mk_hg (fun t => S 65 (36 + t))) (fun _ s M1 => M1 = M ∧ s < S 48 26) (fun s M => some (nI s, M))
    (fun n s M1 p => by
      obtain ⟨rfl, hs⟩ := p
      rw [F_M_topTale_b4, hM.ts, if_pos (Int32.le_refl _)])
    (fun n s i M1 hi p => by
      obtain ⟨rfl, hs⟩ := p
      have b1 := hw.now.knots i hi
      have b2 := hw.now.knots s hs
      refine ⟨M1, ⟨rfl, by unfold mk_hg; split <;> assumption⟩, ?_⟩
      rw [F_M_topTale_b4, hM.ts, if_neg (nI_ge hi (by omega))]
      rw [if_pos (by decide +kernel), nl_36, nI_add, nI_add, nw_ck (by omega) (by omega), nw_ck (by omega) (by omega), nI_clamp (by omega), nI_clamp (by omega), hM.now _ (by omega), hM.now _ (by omega)]
      unfold F_M_topTale_b51
      simp (disch := omega) only [nw_sle, nI_1]
      unfold mk_hg
      split <;> rfl)
    (S 48 26 - 1) 1 N 0 M (by omega) (by omega) ⟨rfl, h0⟩
  obtain ⟨rfl, -⟩ := p
  exact q
theorem mk_Mtoph2 (hN : 1000 ≤ N) (hw : mk_W S A) {M : mj_M} (hM : mk_M S A M) (h0 : 0 < S 48 25) : F_M_topHouse N (nI 2) M = some (nI (mk_hi (fun t => S 63 (3 * t + 1)) (S 48 25)), M) := by
  have h6 := hw.h6
  unfold F_M_topHouse
  obtain ⟨M', p, q⟩ := mk_lp (L := fun n s i M => F_M_topHouse_b4 N n (nI 2) (nI s) (nI i) M) (S 48 25) (mk_hg (fun t => S 63 (3 * t + 1))) (fun _ s M1 => M1 = M ∧ s < S 48 25) (fun s M => some (nI s, M))
    (fun n s M1 p => by
      obtain ⟨rfl, hs⟩ := p
      rw [F_M_topHouse_b4, hM.hs, if_pos (Int32.le_refl _)])
    (fun n s i M1 hi p => by
      obtain ⟨rfl, hs⟩ := p
      have b1 := hw.house i hi
      have b2 := hw.house s hs
      refine ⟨M1, ⟨rfl, by unfold mk_hg; split <;> assumption⟩, ?_⟩
      rw [F_M_topHouse_b4, hM.hs, if_neg (nI_ge hi (by omega)), if_neg (by decide +kernel), show nI 2 - 1 = nI 1 from rfl, mk_ofHouse hM hw hi (by omega)]
      simp only [Option.bind_some]
      rw [mk_ofHouse hM hw hs (by omega)]
      simp only [Option.bind_some]
      unfold F_M_topHouse_b48
      simp (disch := omega) only [nw_sle, nI_1]
      unfold mk_hg
      split <;> rfl)
    (S 48 25 - 1) 1 N 0 M (by omega) (by omega) ⟨rfl, h0⟩
  obtain ⟨rfl, -⟩ := p
  exact q
theorem mk_Mtoph3 (hN : 1000 ≤ N) (hw : mk_W S A) {M : mj_M} (hM : mk_M S A M) (h0 : 0 < S 48 25) : F_M_topHouse N (nI 3) M = some (nI (mk_hi (fun t => S 63 (3 * t + 2)) (S 48 25)), M) := by
  have h6 := hw.h6
  unfold F_M_topHouse
  obtain ⟨M', p, q⟩ := mk_lp (L := fun n s i M => F_M_topHouse_b4 N n (nI 3) (nI s) (nI i) M) (S 48 25) (mk_hg (fun t => S 63 (3 * t + 2))) (fun _ s M1 => M1 = M ∧ s < S 48 25) (fun s M => some (nI s, M))
    (fun n s M1 p => by
      obtain ⟨rfl, hs⟩ := p
      rw [F_M_topHouse_b4, hM.hs, if_pos (Int32.le_refl _)])
    (fun n s i M1 hi p => by
      obtain ⟨rfl, hs⟩ := p
      have b1 := hw.house i hi
      have b2 := hw.house s hs
      refine ⟨M1, ⟨rfl, by unfold mk_hg; split <;> assumption⟩, ?_⟩
      rw [F_M_topHouse_b4, hM.hs, if_neg (nI_ge hi (by omega)), if_neg (by decide +kernel), show nI 3 - 1 = nI 2 from rfl, mk_ofHouse hM hw hi (by omega)]
      simp only [Option.bind_some]
      rw [mk_ofHouse hM hw hs (by omega)]
      simp only [Option.bind_some]
      unfold F_M_topHouse_b48
      simp (disch := omega) only [nw_sle, nI_1]
      unfold mk_hg
      split <;> rfl)
    (S 48 25 - 1) 1 N 0 M (by omega) (by omega) ⟨rfl, h0⟩
  obtain ⟨rfl, -⟩ := p
  exact q
/-- all nights of a house -/
def mk_ng (S : mk_S) (A : mk_L) (h : Nat) : Nat → Nat → Nat := fun t s => if nw_b (S 65 43) t = 0 then s else s + mk_now S A h t
def mk_ni (S : mk_S) (A : mk_L) (h : Nat) : Nat := mk_fo (mk_ng S A h) (S 48 26) 0 0
theorem mk_Xni (hN : 1000 ≤ N) (hw : mk_W S A) {M : mj_M} (hX : mk_X S A M) {h : Nat} (hh : h < S 48 25) : ∃ M', F_Plans_nightsIn N (nI h) M = some (nI (mk_ni S A h), M') ∧ mk_X S A M' ∧ mk_fx M M' ∧ mk_ni S A h ≤ 120 := by
  have t6 := hw.t6
  obtain ⟨M', p, q⟩ := mk_lp (L := fun n s i M => F_Plans_nightsIn_b4 N n (nI h) (nI s) (nI i) M) (S 48 26) (mk_ng S A h) (fun i s M1 => mk_X S A M1 ∧ mk_fx M M1 ∧ s ≤ 20 * i) (fun s M => some (nI s, M))
    (fun n s M1 p => by rw [F_Plans_nightsIn_b4, p.1.ts, if_pos (Int32.le_refl _)])
    (fun n s i M1 hi p => by
      obtain ⟨hX1, f1, hs⟩ := p
      have hb := nw_b2 (S 65 43) i
      have h20 := mk_now20 S A h i
      rw [F_Plans_nightsIn_b4, hX1.ts, if_neg (nI_ge hi (by omega)), mk_Xowns hX1 hw (by omega)]
      simp only [Option.bind_some]
      unfold mk_ng
      by_cases c : nw_b (S 65 43) i = 0
      · rw [if_pos c, c, if_pos (by decide +kernel), nI_1]
        exact ⟨M1, ⟨hX1, f1, by omega⟩, rfl⟩
      · rw [if_neg c, show nw_b (S 65 43) i = 1 by omega, if_neg (by decide +kernel)]
        obtain ⟨M2, e2, x2, f2⟩ := mk_Xnow' hN hw hX1 hh hi
        rw [e2]
        simp only [Option.bind_some, mj_lt]
        rw [nI_add, nI_1]
        exact ⟨M2, ⟨x2, f1.tr f2, by omega⟩, rfl⟩)
    (S 48 26) 0 N 0 M (by omega) (by omega) ⟨hX, mk_fx.rf, by omega⟩
  refine ⟨M', q, p.1, p.2.1, ?_⟩
  have h1 : mk_ni S A h ≤ 20 * S 48 26 := p.2.2
  omega
theorem mk_Mni (hN : 1000 ≤ N) (hw : mk_W S A) {M : mj_M} (hM : mk_M S A M) {h : Nat} (hh : h < S 48 25) : ∃ M', F_M_nightsOfAll N (nI h) M = some (nI (mk_ni S A h), M') ∧ mk_M S A M' ∧ mk_fm M M' ∧ mk_ni S A h ≤ 120 := by
  have t6 := hw.t6
  obtain ⟨M', p, q⟩ := mk_lp (L := fun n s i M => F_M_nightsOfAll_b4 N n (nI h) (nI s) (nI i) M) (S 48 26) (mk_ng S A h) (fun i s M1 => mk_M S A M1 ∧ mk_fm M M1 ∧ s ≤ 20 * i) (fun s M => some (nI s, M))
    (fun n s M1 p => by rw [F_M_nightsOfAll_b4, p.1.ts, if_pos (Int32.le_refl _)])
    (fun n s i M1 hi p => by
      obtain ⟨hX1, f1, hs⟩ := p
      have hb := nw_b2 (S 65 43) i
      have h20 := mk_now20 S A h i
      rw [F_M_nightsOfAll_b4, hX1.ts, if_neg (nI_ge hi (by omega)), mk_Mowns hX1 hw (by omega)]
      simp only [Option.bind_some]
      unfold mk_ng
      by_cases c : nw_b (S 65 43) i = 0
      · rw [if_pos c, c, if_pos (by decide +kernel), nl_0, nI_add, nI_1]
        exact ⟨M1, ⟨hX1, f1, by omega⟩, rfl⟩
      · rw [if_neg c, show nw_b (S 65 43) i = 1 by omega, if_neg (by decide +kernel)]
        obtain ⟨M2, e2, x2, f2⟩ := mk_Mnow' hN hw hX1 hh hi
        rw [e2]
        simp only [Option.bind_some, mj_lt]
        rw [nI_add, nI_1]
        exact ⟨M2, ⟨x2, f1.tr f2, by omega⟩, rfl⟩)
    (S 48 26) 0 N 0 M (by omega) (by omega) ⟨hM, mk_fm.rf, by omega⟩
  refine ⟨M', q, p.1, p.2.1, ?_⟩
  have h1 : mk_ni S A h ≤ 20 * S 48 26 := p.2.2
  omega
def mk_dg (f : Nat → Nat) : Nat → Nat → Nat := fun i s => if f s ≤ f i then s else i
def mk_du (S : mk_S) (A : mk_L) : Nat := mk_fo (mk_dg (mk_ni S A)) (S 48 25 - 1) 1 0
theorem mk_Xdull (hN : 1000 ≤ N) (hw : mk_W S A) {M : mj_M} (hX : mk_X S A M) (h0 : 0 < S 48 25) : ∃ M', F_Plans_dullest N M = some (nI (mk_du S A), M') ∧ mk_X S A M' ∧ mk_fx M M' := by
  have h6 := hw.h6
  unfold F_Plans_dullest
  obtain ⟨M0, e0, x0, f0, b0⟩ := mk_Xni hN hw hX h0
  rw [nl_0, e0]
  simp only [Option.bind_some]
  obtain ⟨M', p, q⟩ := mk_lp (L := fun n s i M => F_Plans_dullest_b10 N n (nI s) (nI (mk_ni S A s)) (nI i) M) (S 48 25) (mk_dg (mk_ni S A)) (fun i s M1 => mk_X S A M1 ∧ mk_fx M M1 ∧ s < S 48 25) (fun s M => some (nI s, M))
    (fun n s M1 p => by rw [F_Plans_dullest_b10, p.1.hs, if_pos (Int32.le_refl _)])
    (fun n s i M1 hi p => by
      obtain ⟨hX1, f1, hs⟩ := p
      obtain ⟨M2, e2, x2, f2, b2⟩ := mk_Xni hN hw hX1 hi
      obtain ⟨_, _, _, _, b1⟩ := mk_Xni hN hw hX1 hs
      rw [F_Plans_dullest_b10, hX1.hs, if_neg (nI_ge hi (by omega)), e2]
      simp (disch := omega) only [Option.bind_some, nw_le, nI_1]
      refine ⟨M2, ⟨x2, f1.tr f2, by unfold mk_dg; split <;> assumption⟩, ?_⟩
      unfold mk_dg
      split <;> rfl)
    (S 48 25 - 1) 1 N 0 M0 (by omega) (by omega) ⟨x0, f0, h0⟩
  exact ⟨M', q, p.1, p.2.1⟩
theorem mk_Mdull (hN : 1000 ≤ N) (hw : mk_W S A) {M : mj_M} (hM : mk_M S A M) (h0 : 0 < S 48 25) : ∃ M', F_M_topHouse N (nI 4) M = some (nI (mk_du S A), M') ∧ mk_M S A M' ∧ mk_fm M M' := by
  have h6 := hw.h6
  unfold F_M_topHouse
  obtain ⟨M', p, q⟩ := mk_lp (L := fun n s i M => F_M_topHouse_b4 N n (nI 4) (nI s) (nI i) M) (S 48 25) (mk_dg (mk_ni S A)) (fun i s M1 => mk_M S A M1 ∧ mk_fm M M1 ∧ s < S 48 25) (fun s M => some (nI s, M))
    (fun n s M1 p => by rw [F_M_topHouse_b4, p.1.hs, if_pos (Int32.le_refl _)])
    (fun n s i M1 hi p => by
      obtain ⟨hX1, f1, hs⟩ := p
      obtain ⟨M2, e2, x2, f2, b2⟩ := mk_Mni hN hw hX1 hs
      obtain ⟨M3, e3, x3, f3, b3⟩ := mk_Mni hN hw x2 hi
      rw [F_M_topHouse_b4, hX1.hs, if_neg (nI_ge hi (by omega)), if_pos (by decide +kernel), e2]
      simp only [Option.bind_some]
      rw [e3]
      simp only [Option.bind_some]
      unfold F_M_topHouse_b48
      simp (disch := omega) only [nw_sle, nI_1]
      refine ⟨M3, ⟨x3, (f1.tr f2).tr f3, by unfold mk_dg; split <;> assumption⟩, ?_⟩
      unfold mk_dg
      split <;> rfl)
    (S 48 25 - 1) 1 N 0 M (by omega) (by omega) ⟨hM, mk_fm.rf, h0⟩
  exact ⟨M', q, p.1, p.2.1⟩
def mk_tru (S : mk_S) : Int32 := mk_fo (fun i (s : Int32) => s ||| (nI (S 64 (3 * i + 2)) <<< (nI i &&& 31))) (S 48 26) 0 0
theorem mk_Xtru (hN : 1000 ≤ N) (hw : mk_W S A) {M : mj_M} (hX : mk_X S A M) : F_Coast_trueBits N M = some (mk_tru S, M) := by
  have t6 := hw.t6
  obtain ⟨M', p, q⟩ := mk_lp (L := fun n (s : Int32) i M => F_Coast_trueBits_b4 N n s (nI i) M) (S 48 26) (fun i (s : Int32) => s ||| (nI (S 64 (3 * i + 2)) <<< (nI i &&& 31))) (fun _ _ M1 => M1 = M) (fun s M => some (s, M))
    (fun n s M1 p => by rw [p, F_Coast_trueBits_b4, hX.ts, if_pos (Int32.le_refl _)])
    (fun n s i M1 hi p => by
      refine ⟨M1, p, ?_⟩
      rw [p, F_Coast_trueBits_b4, hX.ts, if_neg (nI_ge hi (by omega)), nw_ck (by omega) (by omega), nI_clamp (by omega), hX.tru i hi, nI_1]
      rfl)
    (S 48 26) 0 N 0 M (by omega) (by omega) rfl
  rw [p] at q
  exact q
theorem mk_Mtru (hN : 1000 ≤ N) (hw : mk_W S A) {M : mj_M} (hM : mk_M S A M) : F_M_trueOnes N M = some (mk_tru S, M) := by
  have t6 := hw.t6
  obtain ⟨M', p, q⟩ := mk_lp (L := fun n (s : Int32) i M => F_M_trueOnes_b4 N n s (nI i) M) (S 48 26) (fun i (s : Int32) => s ||| (nI (S 64 (3 * i + 2)) <<< (nI i &&& 31))) (fun _ _ M1 => M1 = M) (fun s M => some (s, M))
    (fun n s M1 p => by rw [p, F_M_trueOnes_b4, hM.ts, if_pos (Int32.le_refl _)])
    (fun n s i M1 hi p => by
      refine ⟨M1, p, ?_⟩
      rw [p, F_M_trueOnes_b4, hM.ts, if_neg (nI_ge hi (by omega)), nl_2, mk_ofTale hM hw hi (by omega)]
      simp only [Option.bind_some, mj_lt]
      rw [nI_1])
    (S 48 26) 0 N 0 M (by omega) (by omega) rfl
  rw [p] at q
  exact q
def mk_com (S : mk_S) : Int32 := mk_fo (fun i (s : Int32) => s &&& nI (mk_hb (S 65) i 6)) (S 48 25) 0 (((1 : Int32) <<< (nI (S 48 26) &&& 31)) - (1 : Int32))
theorem mk_Xcom (hN : 1000 ≤ N) (hw : mk_W S A) {M : mj_M} (hX : mk_X S A M) : F_W_commonBits N M = some (mk_com S, M) := by
  have h6 := hw.h6
  obtain ⟨M', p, q⟩ := mk_lp (L := fun n (s : Int32) i M => F_W_commonBits_b10 N n s (nI i) M) (S 48 25) (fun i (s : Int32) => s &&& nI (mk_hb (S 65) i 6)) (fun _ _ M1 => M1 = M) (fun s M => some (s, M))
    (fun n s M1 p => by rw [p, F_W_commonBits_b10, hX.hs, if_pos (Int32.le_refl _)])
    (fun n s i M1 hi p => by
      refine ⟨M1, p, ?_⟩
      rw [p, F_W_commonBits_b10, hX.hs, if_neg (nI_ge hi (by omega)), mk_Xhb hX hw (by omega) (by omega)]
      simp only [Option.bind_some, mj_lt]
      rw [nI_1])
    (S 48 25) 0 N (((1 : Int32) <<< (nI (S 48 26) &&& 31)) - (1 : Int32)) M (by omega) (by omega) rfl
  rw [p] at q
  unfold F_W_commonBits F_Coast_allTales
  rw [hX.ts]
  exact q
theorem mk_Mcom (hN : 1000 ≤ N) (hw : mk_W S A) {M : mj_M} (hM : mk_M S A M) : F_M_commonOnes N M = some (mk_com S, M) := by
  have h6 := hw.h6
  obtain ⟨M', p, q⟩ := mk_lp (L := fun n (s : Int32) i M => F_M_commonOnes_b11 N n s (nI i) M) (S 48 25) (fun i (s : Int32) => s &&& nI (mk_hb (S 65) i 6)) (fun _ _ M1 => M1 = M) (fun s M => some (s, M))
    (fun n s M1 p => by rw [p, F_M_commonOnes_b11, hM.hs, if_pos (Int32.le_refl _)])
    (fun n s i M1 hi p => by
      refine ⟨M1, p, ?_⟩
      rw [p, F_M_commonOnes_b11, hM.hs, if_neg (nI_ge hi (by omega)), mk_Mhb hM hw (by omega) hi]
      simp only [Option.bind_some, mj_lt]
      rw [nI_1])
    (S 48 25) 0 N (((1 : Int32) <<< (nI (S 48 26) &&& 31)) - (1 : Int32)) M (by omega) (by omega) rfl
  rw [p] at q
  unfold F_M_commonOnes
  rw [hM.ts]
  exact q
def mk_sall (S : mk_S) (A : mk_L) : Nat := mk_fo (fun i s => s + mk_ni S A i) (S 48 25) 0 0
theorem mk_Xall (hN : 1000 ≤ N) (hw : mk_W S A) {M : mj_M} (hX : mk_X S A M) : ∃ M', F_Plans_allNights N M = some (nI (mk_sall S A), M') ∧ mk_X S A M' ∧ mk_fx M M' := by
  have h6 := hw.h6
  obtain ⟨M', p, q⟩ := mk_lp (L := fun n s i M => F_Plans_allNights_b4 N n (nI s) (nI i) M) (S 48 25) (fun i s => s + mk_ni S A i) (fun i s M1 => mk_X S A M1 ∧ mk_fx M M1 ∧ s ≤ 120 * i) (fun s M => some (nI s, M))
    (fun n s M1 p => by rw [F_Plans_allNights_b4, p.1.hs, if_pos (Int32.le_refl _)])
    (fun n s i M1 hi p => by
      obtain ⟨hX1, f1, hs⟩ := p
      obtain ⟨M2, e2, x2, f2, b2⟩ := mk_Xni hN hw hX1 hi
      rw [F_Plans_allNights_b4, hX1.hs, if_neg (nI_ge hi (by omega)), e2]
      simp only [Option.bind_some, mj_lt]
      rw [nI_add, nI_1]
      exact ⟨M2, ⟨x2, f1.tr f2, by omega⟩, rfl⟩)
    (S 48 25) 0 N 0 M (by omega) (by omega) ⟨hX, mk_fx.rf, by omega⟩
  exact ⟨M', q, p.1, p.2.1⟩
theorem mk_Mall (hN : 1000 ≤ N) (hw : mk_W S A) {M : mj_M} (hM : mk_M S A M) : ∃ M', F_M_overAll N (nI 0) M = some (nI (mk_sall S A), M') ∧ mk_M S A M' ∧ mk_fm M M' := by
  have h6 := hw.h6
  obtain ⟨M', p, q⟩ := mk_lp (L := fun n s i M => F_M_overAll_b4 N n (nI 0) (nI s) (nI i) M) (S 48 25) (fun i s => s + mk_ni S A i) (fun i s M1 => mk_M S A M1 ∧ mk_fm M M1 ∧ s ≤ 120 * i) (fun s M => some (nI s, M))
    (fun n s M1 p => by rw [F_M_overAll_b4, p.1.hs, if_pos (Int32.le_refl _)])
    (fun n s i M1 hi p => by
      obtain ⟨hX1, f1, hs⟩ := p
      obtain ⟨M2, e2, x2, f2, b2⟩ := mk_Mni hN hw hX1 hi
      rw [F_M_overAll_b4, hX1.hs, if_neg (nI_ge hi (by omega)), e2]
      simp only [Option.bind_some, mj_lt]
      rw [if_pos (by decide +kernel), nI_add, nI_1]
      exact ⟨M2, ⟨x2, f1.tr f2, by omega⟩, rfl⟩)
    (S 48 25) 0 N 0 M (by omega) (by omega) ⟨hM, mk_fm.rf, by omega⟩
  exact ⟨M', q, p.1, p.2.1⟩
def mk_shold (S : mk_S) (A : mk_L) : Nat := mk_fo (fun i s => if mk_ni S A i = 0 then s else s + 1) (S 48 25) 0 0
theorem mk_Xhold (hN : 1000 ≤ N) (hw : mk_W S A) {M : mj_M} (hX : mk_X S A M) : ∃ M', F_Plans_holdingHouses N M = some (nI (mk_shold S A), M') ∧ mk_X S A M' ∧ mk_fx M M' := by
  have h6 := hw.h6
  obtain ⟨M', p, q⟩ := mk_lp (L := fun n s i M => F_Plans_holdingHouses_b4 N n (nI s) (nI i) M) (S 48 25) (fun i s => if mk_ni S A i = 0 then s else s + 1) (fun i s M1 => mk_X S A M1 ∧ mk_fx M M1 ∧ s ≤ 120 * i) (fun s M => some (nI s, M))
    (fun n s M1 p => by rw [F_Plans_holdingHouses_b4, p.1.hs, if_pos (Int32.le_refl _)])
    (fun n s i M1 hi p => by
      obtain ⟨hX1, f1, hs⟩ := p
      obtain ⟨M2, e2, x2, f2, b2⟩ := mk_Xni hN hw hX1 hi
      rw [F_Plans_holdingHouses_b4, hX1.hs, if_neg (nI_ge hi (by omega)), e2]
      simp (disch := omega) only [Option.bind_some, nl_0, nl_1, nw_le, nI_add]
      refine ⟨M2, ⟨x2, f1.tr f2, by split <;> omega⟩, ?_⟩
      by_cases c : mk_ni S A i = 0
      · rw [if_pos (by omega), if_pos c]
      · rw [if_neg (by omega), if_neg c])
    (S 48 25) 0 N 0 M (by omega) (by omega) ⟨hX, mk_fx.rf, by omega⟩
  exact ⟨M', q, p.1, p.2.1⟩
theorem mk_Mhold (hN : 1000 ≤ N) (hw : mk_W S A) {M : mj_M} (hM : mk_M S A M) : ∃ M', F_M_overAll N (nI 1) M = some (nI (mk_shold S A), M') ∧ mk_M S A M' ∧ mk_fm M M' := by
  have h6 := hw.h6
  obtain ⟨M', p, q⟩ := mk_lp (L := fun n s i M => F_M_overAll_b4 N n (nI 1) (nI s) (nI i) M) (S 48 25) (fun i s => if mk_ni S A i = 0 then s else s + 1) (fun i s M1 => mk_M S A M1 ∧ mk_fm M M1 ∧ s ≤ 120 * i) (fun s M => some (nI s, M))
    (fun n s M1 p => by rw [F_M_overAll_b4, p.1.hs, if_pos (Int32.le_refl _)])
    (fun n s i M1 hi p => by
      obtain ⟨hX1, f1, hs⟩ := p
      obtain ⟨M2, e2, x2, f2, b2⟩ := mk_Mni hN hw hX1 hi
      rw [F_M_overAll_b4, hX1.hs, if_neg (nI_ge hi (by omega)), e2]
      simp only [Option.bind_some, mj_lt]
      rw [if_neg (show ¬ nI 1 = (0 : Int32) by decide +kernel)]
      simp (disch := omega) only [nl_0, nl_1, nw_le, nI_add, Nat.add_zero]
      refine ⟨M2, ⟨x2, f1.tr f2, by split <;> omega⟩, ?_⟩
      by_cases c : mk_ni S A i = 0
      · rw [if_pos (by omega), if_pos c]
      · rw [if_neg (by omega), if_neg c])
    (S 48 25) 0 N 0 M (by omega) (by omega) ⟨hM, mk_fm.rf, by omega⟩
  exact ⟨M', q, p.1, p.2.1⟩
end Most
theorem op_35 {N : Nat} (hN : 1000 ≤ N) : mo_35 N mk_I := by
  intro M ⟨S, A, hw, hX, hM⟩ a
  have h6 := hw.h6
  have t6 := hw.t6
  have hht := hw.ht
  by_cases c : S 48 25 = 0
  · refine mk_fin (r := -1) hw hX hM (mk_QX.same fun M hX => ?_) (mk_QM.same fun M hM => ?_)
    · unfold F_W_most; rw [mk_Xtold0 hX c]; rfl
    · unfold F_M_most; rw [if_pos (mk_H0 hM c)]
  have hX0 : ∀ M, mk_X S A M → F_Coast_isTold M = some (1, M) := fun M hX => mk_Xtold1 hX hw (by omega)
  have hM0 : ∀ M, mk_M S A M → ¬ M 48 25 = 0 := fun M hM => mk_H1 hM hw c
  rcases mk_ix a (n := 9) (by omega) with h | ⟨j, hj, rfl⟩
  · have hn := nw_nk h (by omega)
    have n0 : ¬ a = 0 := hn 0 (by omega)
    have n1 : ¬ a = 1 := hn 1 (by omega)
    have n2 : ¬ a = 2 := hn 2 (by omega)
    have n3 : ¬ a = 3 := hn 3 (by omega)
    have n4 : ¬ a = 4 := hn 4 (by omega)
    have n5 : ¬ a = 5 := hn 5 (by omega)
    have n6 : ¬ a = 6 := hn 6 (by omega)
    have n7 : ¬ a = 7 := hn 7 (by omega)
    have n8 : ¬ a = 8 := hn 8 (by omega)
    refine mk_fin (r := -1) hw hX hM (mk_QX.same fun M hX => ?_) (mk_QM.same fun M hM => ?_)
    · unfold F_W_most
      rw [hX0 M hX]
      simp only [Option.bind_some]
      rw [if_neg (by decide +kernel), if_neg n0, if_neg n1, if_neg n2, if_neg n3, if_neg n4, if_neg n5, if_neg n6, if_neg n7, if_neg n8]
    · unfold F_M_most
      rw [if_neg (hM0 M hM), if_neg n0, if_neg n1, if_neg n2, if_neg n3, if_neg n4, if_neg n5, if_neg n6, if_neg n7, if_neg n8]
  have h9 : j = 0 ∨ j = 1 ∨ j = 2 ∨ j = 3 ∨ j = 4 ∨ j = 5 ∨ j = 6 ∨ j = 7 ∨ j = 8 := by omega
  rcases h9 with rfl | rfl | rfl | rfl | rfl | rfl | rfl | rfl | rfl
  · refine mk_fin (r := nI (mk_hi (fun t => S 64 (3 * t)) (S 48 26))) hw hX hM (mk_QX.same fun M hX => ?_) (mk_QM.same fun M hM => ?_)
    · unfold F_W_most
      rw [hX0 M hX]
      simp only [Option.bind_some]
      rw [if_neg (by decide +kernel), if_pos (by decide +kernel), hX.ts, mk_Xhigh17 hN hw hX (by omega)]
      rfl
    · unfold F_M_most
      rw [if_neg (hM0 M hM), if_pos (by decide +kernel), nl_1, mk_Mtop0 hN hw hM (by omega)]
      rfl
  · refine mk_fin (r := nI (mk_hi (fun t => S 65 (36 + t)) (S 48 26))) hw hX hM (mk_QX.same fun M hX => ?_) (mk_QM.same fun M hM => ?_)
    · unfold F_W_most
      rw [hX0 M hX]
      simp only [Option.bind_some]
      rw [if_neg (by decide +kernel), if_neg (by decide +kernel), if_pos (by decide +kernel), hX.ts, mk_Xhigh21 hN hw hX (by omega)]
      rfl
    · unfold F_M_most
      rw [if_neg (hM0 M hM), if_neg (by decide +kernel), if_pos (by decide +kernel), nl_0, mk_Mtop1 hN hw hM (by omega)]
      rfl
  · refine mk_fin (r := nI (mk_hi (fun t => S 63 (3 * t + 1)) (S 48 25))) hw hX hM (mk_QX.same fun M hX => ?_) (mk_QM.same fun M hM => ?_)
    · unfold F_W_most
      rw [hX0 M hX]
      simp only [Option.bind_some]
      rw [if_neg (by decide +kernel), if_neg (by decide +kernel), if_neg (by decide +kernel), if_pos (by decide +kernel), hX.hs, mk_Xhigh15 hN hw hX (by omega)]
      rfl
    · unfold F_M_most
      rw [if_neg (hM0 M hM), if_neg (by decide +kernel), if_neg (by decide +kernel), if_pos (by decide +kernel), nl_2, mk_Mtoph2 hN hw hM (by omega)]
      rfl
  · refine mk_fin (r := nI (mk_hi (fun t => S 63 (3 * t + 2)) (S 48 25))) hw hX hM (mk_QX.same fun M hX => ?_) (mk_QM.same fun M hM => ?_)
    · unfold F_W_most
      rw [hX0 M hX]
      simp only [Option.bind_some]
      rw [if_neg (by decide +kernel), if_neg (by decide +kernel), if_neg (by decide +kernel), if_neg (by decide +kernel), if_pos (by decide +kernel), hX.hs, mk_Xhigh16 hN hw hX (by omega)]
      rfl
    · unfold F_M_most
      rw [if_neg (hM0 M hM), if_neg (by decide +kernel), if_neg (by decide +kernel), if_neg (by decide +kernel), if_pos (by decide +kernel), nl_3, mk_Mtoph3 hN hw hM (by omega)]
      rfl
  · refine mk_fin (r := nI (mk_du S A)) hw hX hM (fun M hX => ?_) (fun M hM => ?_)
    · obtain ⟨M1, e1, x1⟩ := mk_Xdull hN hw hX (by omega)
      refine ⟨M1, ?_, x1⟩
      unfold F_W_most
      rw [hX0 M hX]
      simp only [Option.bind_some]
      rw [if_neg (by decide +kernel), if_neg (by decide +kernel), if_neg (by decide +kernel), if_neg (by decide +kernel), if_neg (by decide +kernel), if_pos (by decide +kernel), e1]
      rfl
    · obtain ⟨M1, e1, x1⟩ := mk_Mdull hN hw hM (by omega)
      refine ⟨M1, ?_, x1⟩
      unfold F_M_most
      rw [if_neg (hM0 M hM), if_neg (by decide +kernel), if_neg (by decide +kernel), if_neg (by decide +kernel), if_neg (by decide +kernel), if_pos (by decide +kernel), nl_4, e1]
      rfl
  · refine mk_fin (r := mk_tru S) hw hX hM (mk_QX.same fun M hX => ?_) (mk_QM.same fun M hM => ?_)
    · unfold F_W_most
      rw [hX0 M hX]
      simp only [Option.bind_some]
      rw [if_neg (by decide +kernel), if_neg (by decide +kernel), if_neg (by decide +kernel), if_neg (by decide +kernel), if_neg (by decide +kernel), if_neg (by decide +kernel), if_pos (by decide +kernel), mk_Xtru hN hw hX]
      rfl
    · unfold F_M_most
      rw [if_neg (hM0 M hM), if_neg (by decide +kernel), if_neg (by decide +kernel), if_neg (by decide +kernel), if_neg (by decide +kernel), if_neg (by decide +kernel), if_pos (by decide +kernel), mk_Mtru hN hw hM]
      rfl
  · refine mk_fin (r := mk_com S) hw hX hM (mk_QX.same fun M hX => ?_) (mk_QM.same fun M hM => ?_)
    · unfold F_W_most
      rw [hX0 M hX]
      simp only [Option.bind_some]
      rw [if_neg (by decide +kernel), if_neg (by decide +kernel), if_neg (by decide +kernel), if_neg (by decide +kernel), if_neg (by decide +kernel), if_neg (by decide +kernel), if_neg (by decide +kernel), if_pos (by decide +kernel), mk_Xcom hN hw hX]
      rfl
    · unfold F_M_most
      rw [if_neg (hM0 M hM), if_neg (by decide +kernel), if_neg (by decide +kernel), if_neg (by decide +kernel), if_neg (by decide +kernel), if_neg (by decide +kernel), if_neg (by decide +kernel), if_pos (by decide +kernel), mk_Mcom hN hw hM]
      rfl
  · refine mk_fin (r := nI (mk_sall S A)) hw hX hM (fun M hX => ?_) (fun M hM => ?_)
    · obtain ⟨M1, e1, x1⟩ := mk_Xall hN hw hX
      refine ⟨M1, ?_, x1⟩
      unfold F_W_most
      rw [hX0 M hX]
      simp only [Option.bind_some]
      rw [if_neg (by decide +kernel), if_neg (by decide +kernel), if_neg (by decide +kernel), if_neg (by decide +kernel), if_neg (by decide +kernel), if_neg (by decide +kernel), if_neg (by decide +kernel), if_neg (by decide +kernel), if_pos (by decide +kernel), e1]
      rfl
    · obtain ⟨M1, e1, x1⟩ := mk_Mall hN hw hM
      refine ⟨M1, ?_, x1⟩
      unfold F_M_most
      rw [if_neg (hM0 M hM), if_neg (by decide +kernel), if_neg (by decide +kernel), if_neg (by decide +kernel), if_neg (by decide +kernel), if_neg (by decide +kernel), if_neg (by decide +kernel), if_neg (by decide +kernel), if_pos (by decide +kernel), nl_0, e1]
      rfl
  · refine mk_fin (r := nI (mk_shold S A)) hw hX hM (fun M hX => ?_) (fun M hM => ?_)
    · obtain ⟨M1, e1, x1⟩ := mk_Xhold hN hw hX
      refine ⟨M1, ?_, x1⟩
      unfold F_W_most
      rw [hX0 M hX]
      simp only [Option.bind_some]
      rw [if_neg (by decide +kernel), if_neg (by decide +kernel), if_neg (by decide +kernel), if_neg (by decide +kernel), if_neg (by decide +kernel), if_neg (by decide +kernel), if_neg (by decide +kernel), if_neg (by decide +kernel), if_neg (by decide +kernel), if_pos (by decide +kernel), e1]
      rfl
    · obtain ⟨M1, e1, x1⟩ := mk_Mhold hN hw hM
      refine ⟨M1, ?_, x1⟩
      unfold F_M_most
      rw [if_neg (hM0 M hM), if_neg (by decide +kernel), if_neg (by decide +kernel), if_neg (by decide +kernel), if_neg (by decide +kernel), if_neg (by decide +kernel), if_neg (by decide +kernel), if_neg (by decide +kernel), if_neg (by decide +kernel), if_pos (by decide +kernel), nl_1, e1]
      rfl
