/-! ===== the pure side: more questions ===== -/
theorem mk_wn.log {H T : Nat} {sn : Nat → Nat} (h : mk_wn H T sn) : sn 48 = min (sn 229) 60 := h.2.2.2.2.2.2.2.2.1
theorem mk_wn.day {H T : Nat} {sn : Nat → Nat} (h : mk_wn H T sn) : sn 45 ≤ 9999 ∧ sn 46 ≤ sn 46 ∧ sn 47 ≤ sn 47 ∧ sn 229 ≤ sn 45 := ⟨h.2.2.2.2.1, h.2.2.2.2.2.1, h.2.2.2.2.2.2.1, h.2.2.2.2.2.2.2.1⟩
theorem mk_wn.bread {H T : Nat} {sn : Nat → Nat} (h : mk_wn H T sn) : sn 44 ≤ 999 := h.2.2.2.1
theorem mk_wn.spot {H T : Nat} {sn : Nat → Nat} (h : mk_wn H T sn) : sn 42 < 6 := h.2.1
theorem mk_wn.spotH {H T : Nat} {sn : Nat → Nat} (h : mk_wn H T sn) : 0 < H → sn 42 < H := h.1
theorem mk_wn.zero {H T : Nat} {sn : Nat → Nat} (h : mk_wn H T sn) : ∀ h t, h < 6 → t < 6 → H ≤ h ∨ T ≤ t → sn (h * 6 + t) = 0 := h.2.2.2.2.2.2.2.2.2.2.2.1
theorem mk_wn.logs {H T : Nat} {sn : Nat → Nat} (h : mk_wn H T sn) : ∀ i, i < sn 48 → sn (49 + 3 * i) < 6 ∧ sn (50 + 3 * i) < 6 ∧ sn (51 + 3 * i) ≤ 20 := h.2.2.2.2.2.2.2.2.2.2.2.2
theorem mk_Xlogsize {S : mk_S} {A : mk_L} {M : mj_M} (hX : mk_X S A M) (hw : mk_W S A) : F_Stand_logSize M = some (nI (S 65 48), M) := by
  have := hw.now.day
  unfold F_Stand_logSize
  rw [hX.now.2.2.2.2.2.2.1, nl_60, nw_min (by omega) (by omega), hw.now.log]
def mk_cnt (S : mk_S) : Nat → Int32
  | 0 => nI (S 48 25)
  | 1 => nI (S 48 26)
  | 2 => nI (S 48 13)
  | 3 => nI (S 48 2)
  | 4 => nI (S 48 29) - nI 1
  | 5 => nI (S 65 45)
  | 6 => nI (S 65 42)
  | 7 => nI (S 65 43)
  | 8 => nI (S 65 44)
  | 9 => nI (S 65 46)
  | 10 => nI (S 65 47)
  | 11 => nI (S 48 30)
  | 12 => nI (S 48 40)
  | 13 => nI (S 65 48)
  | _ => nI (S 48 32)
theorem op_38 {N : Nat} : mo_38 N mk_I := by
  intro M ⟨S, A, hw, hX, hM⟩ a
  rcases mk_ix a (n := 15) (by omega) with h | ⟨j, hj, rfl⟩
  · have hn := nw_nk h (by omega)
    have n0 : ¬ a = 0 := hn 0 (by omega)
    have n1 : ¬ a = 1 := hn 1 (by omega)
    have n2 : ¬ a = 2 := hn 2 (by omega)
    have n3 : ¬ a = 3 := hn 3 (by omega)
    have n4 : ¬ a = 4 := hn 4 (by omega)
    have n5 : ¬ a = 5 := hn 5 (by omega)
    have n6 : ¬ a = 6 := hn 6 (by omega)
    have n7 : ¬ a = 7 := hn 7 (by omega)
    have n8 : ¬ a = 8 := hn 8 (by omega)
    have n9 : ¬ a = 9 := hn 9 (by omega)
    have n10 : ¬ a = 10 := hn 10 (by omega)
    have n11 : ¬ a = 11 := hn 11 (by omega)
    have n12 : ¬ a = 12 := hn 12 (by omega)
    have n13 : ¬ a = 13 := hn 13 (by omega)
    have n14 : ¬ a = 14 := hn 14 (by omega)
    refine mk_fin (r := -1000000) hw hX hM (mk_QX.same fun M hX => ?_) (mk_QM.same fun M hM => ?_)
    · unfold F_W_count F_W_countOfStand
      rw [if_neg n0, if_neg n1, if_neg n2, if_neg n3, if_neg n4, if_neg n11, if_neg n12, if_neg n13, if_neg n14]
      rw [if_neg n5, if_neg n6, if_neg n7, if_neg n8, if_neg n9, if_neg n10]
      rfl
    · unfold F_M_count
      rw [if_neg n0, if_neg n1, if_neg n2, if_neg n3, if_neg n4, if_neg n5, if_neg n6, if_neg n7, if_neg n8, if_neg n9, if_neg n10, if_neg n11, if_neg n12, if_neg n13, if_neg n14]
  · have h9 : j = 0 ∨ j = 1 ∨ j = 2 ∨ j = 3 ∨ j = 4 ∨ j = 5 ∨ j = 6 ∨ j = 7 ∨ j = 8 ∨ j = 9 ∨ j = 10 ∨ j = 11 ∨ j = 12 ∨ j = 13 ∨ j = 14 := by omega
    refine mk_fin (r := mk_cnt S j) hw hX hM (mk_QX.same fun M hX => ?_) (mk_QM.same fun M hM => ?_)
    · rcases h9 with rfl | rfl | rfl | rfl | rfl | rfl | rfl | rfl | rfl | rfl | rfl | rfl | rfl | rfl | rfl
      · unfold F_W_count
        rw [if_pos (by decide +kernel), hX.hs]
        rfl
      · unfold F_W_count
        rw [if_neg (by decide +kernel), if_pos (by decide +kernel), hX.ts]
        rfl
      · unfold F_W_count
        rw [if_neg (by decide +kernel), if_neg (by decide +kernel), if_pos (by decide +kernel), hX.laws]
        rfl
      · unfold F_W_count
        rw [if_neg (by decide +kernel), if_neg (by decide +kernel), if_neg (by decide +kernel), if_pos (by decide +kernel), hX.size]
        rfl
      · unfold F_W_count
        rw [if_neg (by decide +kernel), if_neg (by decide +kernel), if_neg (by decide +kernel), if_neg (by decide +kernel), if_pos (by decide +kernel), hX.hold]
        rfl
      · unfold F_W_count
        rw [if_neg (by decide +kernel), if_neg (by decide +kernel), if_neg (by decide +kernel), if_neg (by decide +kernel), if_neg (by decide +kernel), if_neg (by decide +kernel), if_neg (by decide +kernel), if_neg (by decide +kernel), if_neg (by decide +kernel)]
        unfold F_W_countOfStand
        rw [if_pos (by decide +kernel), hX.now.2.2.2.1]
        rfl
      · unfold F_W_count
        rw [if_neg (by decide +kernel), if_neg (by decide +kernel), if_neg (by decide +kernel), if_neg (by decide +kernel), if_neg (by decide +kernel), if_neg (by decide +kernel), if_neg (by decide +kernel), if_neg (by decide +kernel), if_neg (by decide +kernel)]
        unfold F_W_countOfStand
        rw [if_neg (by decide +kernel), if_pos (by decide +kernel), hX.now.1]
        rfl
      · unfold F_W_count
        rw [if_neg (by decide +kernel), if_neg (by decide +kernel), if_neg (by decide +kernel), if_neg (by decide +kernel), if_neg (by decide +kernel), if_neg (by decide +kernel), if_neg (by decide +kernel), if_neg (by decide +kernel), if_neg (by decide +kernel)]
        unfold F_W_countOfStand
        rw [if_neg (by decide +kernel), if_neg (by decide +kernel), if_pos (by decide +kernel), hX.now.2.1]
        rfl
      · unfold F_W_count
        rw [if_neg (by decide +kernel), if_neg (by decide +kernel), if_neg (by decide +kernel), if_neg (by decide +kernel), if_neg (by decide +kernel), if_neg (by decide +kernel), if_neg (by decide +kernel), if_neg (by decide +kernel), if_neg (by decide +kernel)]
        unfold F_W_countOfStand
        rw [if_neg (by decide +kernel), if_neg (by decide +kernel), if_neg (by decide +kernel), if_pos (by decide +kernel), hX.now.2.2.1]
        rfl
      · unfold F_W_count
        rw [if_neg (by decide +kernel), if_neg (by decide +kernel), if_neg (by decide +kernel), if_neg (by decide +kernel), if_neg (by decide +kernel), if_neg (by decide +kernel), if_neg (by decide +kernel), if_neg (by decide +kernel), if_neg (by decide +kernel)]
        unfold F_W_countOfStand
        rw [if_neg (by decide +kernel), if_neg (by decide +kernel), if_neg (by decide +kernel), if_neg (by decide +kernel), if_pos (by decide +kernel), hX.now.2.2.2.2.1]
        rfl
      · unfold F_W_count
        rw [if_neg (by decide +kernel), if_neg (by decide +kernel), if_neg (by decide +kernel), if_neg (by decide +kernel), if_neg (by decide +kernel), if_neg (by decide +kernel), if_neg (by decide +kernel), if_neg (by decide +kernel), if_neg (by decide +kernel)]
        unfold F_W_countOfStand
        rw [if_neg (by decide +kernel), if_neg (by decide +kernel), if_neg (by decide +kernel), if_neg (by decide +kernel), if_neg (by decide +kernel), if_pos (by decide +kernel), hX.now.2.2.2.2.2.1]
        rfl
      · unfold F_W_count
        rw [if_neg (by decide +kernel), if_neg (by decide +kernel), if_neg (by decide +kernel), if_neg (by decide +kernel), if_neg (by decide +kernel), if_pos (by decide +kernel), hX.why]
        rfl
      · unfold F_W_count
        rw [if_neg (by decide +kernel), if_neg (by decide +kernel), if_neg (by decide +kernel), if_neg (by decide +kernel), if_neg (by decide +kernel), if_neg (by decide +kernel), if_pos (by decide +kernel), hX.sights]
        rfl
      · unfold F_W_count
        rw [if_neg (by decide +kernel), if_neg (by decide +kernel), if_neg (by decide +kernel), if_neg (by decide +kernel), if_neg (by decide +kernel), if_neg (by decide +kernel), if_neg (by decide +kernel), if_pos (by decide +kernel), mk_Xlogsize hX hw]
        rfl
      · unfold F_W_count
        rw [if_neg (by decide +kernel), if_neg (by decide +kernel), if_neg (by decide +kernel), if_neg (by decide +kernel), if_neg (by decide +kernel), if_neg (by decide +kernel), if_neg (by decide +kernel), if_neg (by decide +kernel), if_pos (by decide +kernel), hX.kept]
        rfl
    · rcases h9 with rfl | rfl | rfl | rfl | rfl | rfl | rfl | rfl | rfl | rfl | rfl | rfl | rfl | rfl | rfl
      · unfold F_M_count
        rw [if_pos (by decide +kernel), hM.hs]
        rfl
      · unfold F_M_count
        rw [if_neg (by decide +kernel), if_pos (by decide +kernel), hM.ts]
        rfl
      · unfold F_M_count
        rw [if_neg (by decide +kernel), if_neg (by decide +kernel), if_pos (by decide +kernel), hM.laws]
        rfl
      · unfold F_M_count
        rw [if_neg (by decide +kernel), if_neg (by decide +kernel), if_neg (by decide +kernel), if_pos (by decide +kernel), hM.size]
        rfl
      · unfold F_M_count
        rw [if_neg (by decide +kernel), if_neg (by decide +kernel), if_neg (by decide +kernel), if_neg (by decide +kernel), if_pos (by decide +kernel), hM.hold]
        rfl
      · unfold F_M_count
        rw [if_neg (by decide +kernel), if_neg (by decide +kernel), if_neg (by decide +kernel), if_neg (by decide +kernel), if_neg (by decide +kernel), if_pos (by decide +kernel), hM.now 45 (by omega)]
        rfl
      · unfold F_M_count
        rw [if_neg (by decide +kernel), if_neg (by decide +kernel), if_neg (by decide +kernel), if_neg (by decide +kernel), if_neg (by decide +kernel), if_neg (by decide +kernel), if_pos (by decide +kernel), hM.now 42 (by omega)]
        rfl
      · unfold F_M_count
        rw [if_neg (by decide +kernel), if_neg (by decide +kernel), if_neg (by decide +kernel), if_neg (by decide +kernel), if_neg (by decide +kernel), if_neg (by decide +kernel), if_neg (by decide +kernel), if_pos (by decide +kernel), hM.now 43 (by omega)]
        rfl
      · unfold F_M_count
        rw [if_neg (by decide +kernel), if_neg (by decide +kernel), if_neg (by decide +kernel), if_neg (by decide +kernel), if_neg (by decide +kernel), if_neg (by decide +kernel), if_neg (by decide +kernel), if_neg (by decide +kernel), if_pos (by decide +kernel), hM.now 44 (by omega)]
        rfl
      · unfold F_M_count
        rw [if_neg (by decide +kernel), if_neg (by decide +kernel), if_neg (by decide +kernel), if_neg (by decide +kernel), if_neg (by decide +kernel), if_neg (by decide +kernel), if_neg (by decide +kernel), if_neg (by decide +kernel), if_neg (by decide +kernel), if_pos (by decide +kernel), hM.now 46 (by omega)]
        rfl
      · unfold F_M_count
        rw [if_neg (by decide +kernel), if_neg (by decide +kernel), if_neg (by decide +kernel), if_neg (by decide +kernel), if_neg (by decide +kernel), if_neg (by decide +kernel), if_neg (by decide +kernel), if_neg (by decide +kernel), if_neg (by decide +kernel), if_neg (by decide +kernel), if_pos (by decide +kernel), hM.now 47 (by omega)]
        rfl
      · unfold F_M_count
        rw [if_neg (by decide +kernel), if_neg (by decide +kernel), if_neg (by decide +kernel), if_neg (by decide +kernel), if_neg (by decide +kernel), if_neg (by decide +kernel), if_neg (by decide +kernel), if_neg (by decide +kernel), if_neg (by decide +kernel), if_neg (by decide +kernel), if_neg (by decide +kernel), if_pos (by decide +kernel), hM.why]
        rfl
      · unfold F_M_count
        rw [if_neg (by decide +kernel), if_neg (by decide +kernel), if_neg (by decide +kernel), if_neg (by decide +kernel), if_neg (by decide +kernel), if_neg (by decide +kernel), if_neg (by decide +kernel), if_neg (by decide +kernel), if_neg (by decide +kernel), if_neg (by decide +kernel), if_neg (by decide +kernel), if_neg (by decide +kernel), if_pos (by decide +kernel), hM.sights]
        rfl
      · unfold F_M_count
        rw [if_neg (by decide +kernel), if_neg (by decide +kernel), if_neg (by decide +kernel), if_neg (by decide +kernel), if_neg (by decide +kernel), if_neg (by decide +kernel), if_neg (by decide +kernel), if_neg (by decide +kernel), if_neg (by decide +kernel), if_neg (by decide +kernel), if_neg (by decide +kernel), if_neg (by decide +kernel), if_neg (by decide +kernel), if_pos (by decide +kernel), hM.now 48 (by omega)]
        rfl
      · unfold F_M_count
        rw [if_neg (by decide +kernel), if_neg (by decide +kernel), if_neg (by decide +kernel), if_neg (by decide +kernel), if_neg (by decide +kernel), if_neg (by decide +kernel), if_neg (by decide +kernel), if_neg (by decide +kernel), if_neg (by decide +kernel), if_neg (by decide +kernel), if_neg (by decide +kernel), if_neg (by decide +kernel), if_neg (by decide +kernel), if_neg (by decide +kernel), if_pos (by decide +kernel), hM.kept]
        rfl
theorem op_4 {N : Nat} (hN : 1000 ≤ N) : mo_4 N mk_I := by
  intro M ⟨S, A, hw, hX, hM⟩ a b
  have h6 := hw.h6
  rcases mk_ix a (n := S 48 25) (by omega) with h | ⟨h, hh, rfl⟩
  · refine mk_fin (r := -1) hw hX hM (mk_QX.same fun M hX => ?_) (mk_QM.same fun M hM => ?_)
    · unfold F_W_house; rw [mk_Xh0 hX h]; rfl
    · unfold F_M_house; rw [mk_Mh0 hM hw h]; rfl
  rcases mk_ix b (n := 3) (by omega) with h' | ⟨k, hk, rfl⟩
  · have hn := nw_nk h' (by omega)
    refine mk_fin (r := -1) hw hX hM (mk_QX.same fun M hX => ?_) (mk_QM.same fun M hM => ?_)
    · unfold F_W_house; rw [mk_Xh1 hX hw hh]
      simp only [Option.bind_some]
      rw [if_neg (by decide +kernel), nl_0, if_neg (hn 0 (by omega)), nl_1, if_neg (hn 1 (by omega)), nl_2, if_neg (hn 2 (by omega))]
    · unfold F_M_house; rw [mk_Mh1 hM hw hh]
      simp only [Option.bind_some]
      rw [if_neg (by decide +kernel), nl_0, nl_2, mk_Mino h' (by omega)]; rfl
  have h9 : k = 0 ∨ k = 1 ∨ k = 2 := by omega
  refine mk_fin (r := if k = 0 then nI (mk_hb (S 65) h 6) else nI (S 63 (3 * h + k))) hw hX hM (mk_QX.same fun M hX => ?_) (mk_QM.same fun M hM => ?_)
  · unfold F_W_house; rw [mk_Xh1 hX hw hh]
    simp only [Option.bind_some]
    rw [if_neg (by decide +kernel), mk_Xhb hX hw (by omega) (by omega), nw_ck (by omega) (by omega), nw_ck (by omega) (by omega), nI_clamp (by omega), hX.cur h hh, hX.warm h hh]
    rcases h9 with rfl | rfl | rfl
    · rfl
    · rw [if_neg (by decide +kernel), if_pos (by decide +kernel), if_neg (by omega)]
    · rw [if_neg (by decide +kernel), if_neg (by decide +kernel), if_pos (by decide +kernel), if_neg (by omega)]
  · unfold F_M_house; rw [mk_Mh1 hM hw hh]
    simp only [Option.bind_some]
    rw [if_neg (by decide +kernel), nl_0, nl_2, mk_Mini (by omega) (by omega)]
    simp only [Option.bind_some]
    rw [if_neg (by decide +kernel), mk_Mhb hM hw (by omega) hh, mk_ofHouse hM hw hh hk]
    simp (disch := omega) only [nw_eq, Option.bind_some]
    split <;> rfl
theorem op_32 {N : Nat} (hN : 1000 ≤ N) : mo_32 N mk_I := by
  intro M ⟨S, A, hw, hX, hM⟩ a b
  have h6 := hw.h6
  rcases mk_ix a (n := S 48 25) (by omega) with h | ⟨h, hh, rfl⟩
  · refine mk_fin (r := -1) hw hX hM (mk_QX.same fun M hX => ?_) (mk_QM.same fun M hM => ?_)
    · unfold F_W_fresh; rw [mk_Xh0 hX h]; rfl
    · unfold F_M_fresh; rw [mk_Mh0 hM hw h]; rfl
  rcases mk_ix b (n := 2) (by omega) with h' | ⟨k, hk, rfl⟩
  · refine mk_fin (r := -1) hw hX hM (mk_QX.same fun M hX => ?_) (mk_QM.same fun M hM => ?_)
    · unfold F_W_fresh; rw [mk_Xh1 hX hw hh]
      simp only [Option.bind_some]
      rw [if_neg (by decide +kernel)]
      by_cases c : b < 0
      · rw [if_pos c]
      · rw [if_neg c, nl_1, if_neg (nw_gt (h'.resolve_left c) (by omega)).2.1]
    · unfold F_M_fresh; rw [mk_Mh1 hM hw hh]
      simp only [Option.bind_some]
      rw [if_neg (by decide +kernel), nl_0, nl_1, mk_Mino h' (by omega)]; rfl
  refine mk_fin (r := if k = 0 then nI (S 65 43) &&& (nI (mk_hb (S 65) h 6) ^^^ -nI 1) else nI (mk_hb (S 65) h 6) &&& (nI (S 65 43) ^^^ -nI 1)) hw hX hM (mk_QX.same fun M hX => ?_) (mk_QM.same fun M hM => ?_)
  · unfold F_W_fresh; rw [mk_Xh1 hX hw hh]
    simp only [Option.bind_some]
    rw [if_neg (by decide +kernel), if_neg (nI_pos (by omega)), nl_1, if_pos (nI_le (by omega) (by omega)), mk_Xhb hX hw (by omega) (by omega)]
    simp (disch := omega) only [nl_0, nw_eq, Option.bind_some]
    rw [hX.now.2.1]
    split <;> rfl
  · unfold F_M_fresh; rw [mk_Mh1 hM hw hh]
    simp only [Option.bind_some]
    rw [if_neg (by decide +kernel), nl_0, nl_1, mk_Mini (by omega) (by omega)]
    simp only [Option.bind_some]
    rw [if_neg (by decide +kernel), mk_Mhb hM hw (by omega) hh]
    simp (disch := omega) only [nw_eq, Option.bind_some]
    rw [hM.now 43 (by omega)]
    split <;> rfl
theorem op_24 {N : Nat} : mo_24 N mk_I := by
  intro M ⟨S, A, hw, hX, hM⟩ a b z hz
  have h6 := hw.h6
  have hs := hw.sights
  obtain ⟨zz, hzz, rfl, hnar⟩ : ∃ zz, zz ≤ 1 ∧ z = nI zz ∧ vp_nar .boolean z = nI zz := by
    rcases hz with rfl | rfl
    · exact ⟨0, by omega, rfl, by decide +kernel⟩
    · exact ⟨1, by omega, rfl, by decide +kernel⟩
  rcases mk_ix a (n := S 48 25) (by omega) with h | ⟨h, hh, rfl⟩
  · refine mk_fin (r := -1) hw hX hM (mk_QX.same fun M hX => ?_) (mk_QM.same fun M hM => ?_)
    · unfold F_W_seen; rw [mk_Xh0 hX h]; rfl
    · unfold F_M_seen; rw [mk_Mh0 hM hw h]; rfl
  rcases mk_ix b (n := 21) (by omega) with h' | ⟨v, hv, rfl⟩
  · refine mk_fin (r := -1) hw hX hM (mk_QX.same fun M hX => ?_) (mk_QM.same fun M hM => ?_)
    · unfold F_W_seen; rw [mk_Xh1 hX hw hh]
      simp only [Option.bind_some]
      rw [if_neg (by decide +kernel)]
      by_cases c : b < 0
      · rw [if_pos c]
      · rw [if_neg c, nl_20, if_pos (nw_gt (h'.resolve_left c) (by omega)).1]
    · unfold F_M_seen; rw [mk_Mh1 hM hw hh]
      simp only [Option.bind_some]
      rw [if_neg (by decide +kernel), nl_0, nl_20, mk_Mino h' (by omega)]; rfl
  by_cases c : S 48 40 = 10
  · refine mk_fin (r := -1) hw hX hM (mk_QX.same fun M hX => ?_) (mk_QM.same fun M hM => ?_)
    · unfold F_W_seen; rw [mk_Xh1 hX hw hh]
      simp only [Option.bind_some]
      rw [if_neg (by decide +kernel), if_neg (nI_pos (by omega)), nl_20, if_neg (nI_nlt (by omega) (by omega)), hX.sights, nl_10, if_neg (nI_nlt (by omega) (by omega))]
    · unfold F_M_seen; rw [mk_Mh1 hM hw hh]
      simp only [Option.bind_some]
      rw [if_neg (by decide +kernel), nl_0, nl_20, mk_Mini (by omega) (by omega)]
      simp only [Option.bind_some]
      rw [if_neg (by decide +kernel), hM.sights, c, if_pos (by decide +kernel)]
  refine mk_fin (S' := mk_u (mk_u (mk_u (mk_u S 69 (S 48 40) h) 70 (S 48 40) v) 71 (S 48 40) zz) 48 40 (S 48 40 + 1)) (A' := A) (r := nI (S 48 40 + 1)) ?_ hX hM (fun M hX => ?_) (fun M hM => ?_)
  · unfold mk_W
    simp (disch := omega) only [mk_un1, mk_u_eq, mj_up_eq, mj_up_ne]
    refine ⟨hw.h6, hw.t6, hw.ht, hw.size, hw.byte, hw.laws, hw.hold, hw.why, hw.kept, by omega, hw.img, hw.next, hw.often, hw.house, hw.tale, hw.now, hw.rows, hw.kh, hw.image, fun i hi => ?_, hw.wl, hw.chain⟩
    by_cases e : i = S 48 40
    · subst e
      rw [mj_up_eq, mj_up_eq, mj_up_eq]
      omega
    · rw [mj_up_ne _ _ _ e, mj_up_ne _ _ _ e, mj_up_ne _ _ _ e]
      exact hw.seen i (by omega)
  · unfold F_W_seen; rw [mk_Xh1 hX hw hh]
    simp only [Option.bind_some]
    rw [if_neg (by decide +kernel), if_neg (nI_pos (by omega)), nl_20, if_neg (nI_nlt (by omega) (by omega)), hX.sights, nl_10, if_pos (nI_lt (by omega) (by omega))]
    unfold F_Guess_add
    rw [hX.sights, nl_10, if_neg (nI_ge (by omega) (by omega))]
    simp only [mj_lt]
    simp (disch := omega) only [nw_u9, hX.sights, nw_ck, nI_clamp, hnar, Option.bind_some, nI_1]
    refine ⟨_, congrArg some (Prod.ext ?_ rfl), ?_, ?_⟩
    · simp only [mj_u_eq, mj_up_eq]
    · unfold mk_X
      simp (disch := omega) only [nw_u9, mj_u_eq, mj_up_eq, mj_up_ne, nw_a9, nw_ae, mk_un1, mk_u_eq]
      refine ⟨hX.why, hX.ref, hX.size, hX.tape, hX.laws, hX.hold, hX.lens, hX.codes, hX.hs, hX.ts, hX.often, hX.known, hX.cur, hX.warm, hX.len, hX.kn, hX.tru, hX.now, hX.ring, hX.kept, hX.img, hX.next, hX.rows, hX.image, trivial, fun i hi => ?_, fun i hi => ?_, fun i hi => ?_⟩
      all_goals
        by_cases e : i = S 48 40
        · subst e
          rw [mj_up_eq, mj_up_eq]
        · rw [mj_up_ne _ _ _ e, mj_up_ne _ _ _ e]
          first | exact hX.sh i (by omega) | exact hX.sb i (by omega) | exact hX.si i (by omega)
    · exact (((mk_fx.rf.u (by omega)).u (by omega)).u (by omega)).u (by omega)
  · unfold F_M_seen; rw [mk_Mh1 hM hw hh]
    simp only [Option.bind_some]
    rw [if_neg (by decide +kernel), nl_0, nl_20, mk_Mini (by omega) (by omega)]
    simp only [Option.bind_some]
    rw [if_neg (by decide +kernel), hM.sights, nl_10, if_neg (by rw [nw_eq (by omega) (by omega)]; exact c)]
    simp only [mj_lt]
    simp (disch := omega) only [nw_u9, hM.sights, nw_ck, nI_clamp, hnar, nI_1]
    refine ⟨_, congrArg some (Prod.ext ?_ rfl), ?_, ?_⟩
    · simp only [mj_u_eq, mj_up_eq]
    · unfold mk_M
      simp (disch := omega) only [nw_u9, mj_u_eq, mj_up_eq, mj_up_ne, nw_a9, nw_ae, mk_un1, mk_u_eq]
      refine ⟨hM.size, hM.laws, hM.hs, hM.ts, hM.hold, hM.why, hM.kept, trivial, hM.img, hM.tape, hM.lens, fun n hn => mk_cl_cg (by simp (disch := omega) only [nw_u9]) (by simp (disch := omega) only [nw_u9]) (by simp (disch := omega) only [nw_u9]) (by simp (disch := omega) only [nw_u9]) (by simp (disch := omega) only [nw_u9]) _ _ _ (hM.codes n hn), hM.often, hM.house, hM.tale, hM.now, hM.ref, hM.rows, fun i hi => ?_, fun i hi => ?_, fun i hi => ?_, hM.image⟩
      all_goals
        by_cases e : i = S 48 40
        · subst e
          rw [mj_up_eq, mj_up_eq]
        · rw [mj_up_ne _ _ _ e, mj_up_ne _ _ _ e]
          first | exact hM.sh i (by omega) | exact hM.sb i (by omega) | exact hM.si i (by omega)
    · exact (((mk_fm.rf.u (by omega)).u (by omega)).u (by omega)).u (by omega)
theorem op_5 {N : Nat} : mo_5 N mk_I := by
  intro M ⟨S, A, hw, hX, hM⟩ a b
  have t6 := hw.t6
  have su : ∀ (M : mj_M) (v : Int32), mk_M S A M → mk_M S A (mj_u M 48 0 v) := fun M v hM => hM.sc (fun c j h => by
    by_cases e : c = 48
    · subst e
      rw [mj_u_eq, mj_up_ne _ _ _ (by rintro rfl; exact h (by unfold mk_sm; omega))]
    · rw [nw_u9 _ e])
  have no : ∀ v : Int32, (F_M_tale_b22 a b M = some (0, mj_u M 48 0 1)) := fun v => by
    unfold F_M_tale_b22 F_M_tale_b23
    simp only [mj_lt, mj_u_eq, mj_up_eq]
    rw [if_pos trivial]
  have th : F_M_thrown (mj_u M 48 0 1) = some (1, mj_u M 48 0 1) := by
    unfold F_M_thrown
    simp only [mj_u_eq, mj_up_eq]
  have inv : mk_I (mj_u M 48 0 1) := ⟨S, A, hw, hX.fm (mk_fm.rf.u (by omega)), su M 1 hM⟩
  rcases mk_ix a (n := S 48 26) (by omega) with h | ⟨t, ht, rfl⟩
  · refine Or.inr ⟨Or.inl (mk_Xt0 hX h), 0, mj_u M 48 0 1, mj_u M 48 0 1, ?_, th, inv⟩
    unfold F_M_tale
    rw [mk_Mt0 hM hw h]
    exact no 0
  rcases mk_ix b (n := 4) (by omega) with h' | ⟨k, hk, rfl⟩
  · refine Or.inr ⟨Or.inr ⟨⟨1, mk_Xt1 hX hw ht⟩, ?_⟩, 0, mj_u M 48 0 1, mj_u M 48 0 1, ?_, th, inv⟩
    · exact h'.imp id fun h' => (nw_gt (n := 3) h' (by omega)).2.1
    · unfold F_M_tale
      rw [mk_Mt1 hM hw ht]
      simp only [Option.bind_some]
      rw [if_neg (by decide +kernel), nl_0, nl_3, mk_Mino h' (by omega)]
      exact no 0
  obtain ⟨v, hv⟩ : ∃ v : Int32, v = (if k = 1 then nI (S 65 (36 + t)) else if k = 3 then nI (nw_b (S 65 43) t) else nI (S 64 (3 * t + k))) := ⟨_, rfl⟩
  have h9 : k = 0 ∨ k = 1 ∨ k = 2 ∨ k = 3 := by omega
  have hX1 : F_W_tale (nI t) (nI k) M = some (v, M) := by
    unfold F_W_tale
    rw [mk_Xt1 hX hw ht]
    simp only [Option.bind_some]
    rw [if_neg (by decide +kernel), if_neg (nI_pos (by omega)), nl_3, if_pos (nI_le (by omega) (by omega))]
    unfold F_W_tale_b28
    rw [nw_ck (by omega) (by omega), nw_ck (by omega) (by omega), nw_ck (by omega) (by omega), nI_clamp (by omega), mk_Xowns hX hw (by omega), hX.len t ht, hX.now.knots t ht, hX.tru t ht, hv]
    have hb := nw_b2 (S 65 43) t
    rcases h9 with rfl | rfl | rfl | rfl
    · rfl
    · rfl
    · rfl
    · rw [if_neg (by decide +kernel), if_neg (by decide +kernel), if_neg (by decide +kernel), if_neg (by omega), if_pos rfl]
      simp (disch := omega) only [nl_0, nw_eq, Option.bind_some]
      split
      · rename_i c; rw [c]
      · rw [show nw_b (S 65 43) t = 1 by omega]; rfl
  have hM2 : mk_M S A (mj_u (mj_out M v.toInt64) 48 0 0) := su _ 0 (hM.sc fun c j h => by
    unfold mj_out
    rw [nw_u9 _ (by rintro rfl; exact h (by unfold mk_sm; omega)), nw_u9 _ (by rintro rfl; exact h (by unfold mk_sm; omega))])
  refine Or.inl ⟨v, M, mj_u (mj_out M v.toInt64) 48 0 0, mj_u (mj_out M v.toInt64) 48 0 0, hX1, ?_, ?_, ?_, S, A, hw, ?_, hM2⟩
  · have hMo : mk_M S A (mj_out M v.toInt64) := hM.sc fun c j h => by
      unfold mj_out
      rw [nw_u9 _ (by rintro rfl; exact h (by unfold mk_sm; omega)), nw_u9 _ (by rintro rfl; exact h (by unfold mk_sm; omega))]
    unfold F_M_tale
    rw [mk_Mt1 hMo hw ht]
    simp only [Option.bind_some]
    rw [if_neg (by decide +kernel), nl_0, nl_3, mk_Mini (by omega) (by omega)]
    simp only [Option.bind_some]
    rw [if_neg (by decide +kernel)]
    unfold F_M_tale_b23
    simp only [mj_lt, mj_u_eq, mj_up_eq]
    rw [if_neg (by decide +kernel), nl_36, nI_add, nw_ck (by omega) (by omega), nI_clamp (by omega)]
    have hM3 : mk_M S A (mj_u (mj_out M v.toInt64) 48 0 (nI 0)) := hM2
    rw [hM3.now _ (by omega), mk_Mowns hM3 hw (by omega)]
    have hb := nw_b2 (S 65 43) t
    rcases h9 with rfl | rfl | rfl | rfl
    · rw [if_neg (by decide +kernel), if_neg (by decide +kernel), mk_ofTale hM3 hw ht (by omega)]
      rw [if_neg (by omega), if_neg (by omega)] at hv
      rw [hv]; rfl
    · rw [if_pos (by decide +kernel)]
      rw [if_pos rfl] at hv
      rw [hv]
    · rw [if_neg (by decide +kernel), if_neg (by decide +kernel), mk_ofTale hM3 hw ht (by omega)]
      rw [if_neg (by omega), if_neg (by omega)] at hv
      rw [hv]; rfl
    · rw [if_neg (by decide +kernel), if_pos (by decide +kernel)]
      rw [if_neg (by omega), if_pos rfl] at hv
      simp (disch := omega) only [nl_0, nw_eq, Option.bind_some]
      rw [hv]
      split
      · rename_i c; rw [c]
      · rw [show nw_b (S 65 43) t = 1 by omega]; rfl
  · unfold F_M_thrown
    simp only [mj_u_eq, mj_up_eq]
  · rw [nw_u9 _ (by omega)]
  · exact hX.fm ((show mk_fm M (mj_out M v.toInt64) from (mk_fm.rf.u (by omega)).u (by omega)).u (by omega))
