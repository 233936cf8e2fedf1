/-! ===== the pure side: years ===== -/
/-- as the library's, but no rfl: the kernel is not to compare what is bound with what follows -/
theorem mk_bs {α β : Type} (a : α) (f : α → Option β) : (some a).bind f = f a := by
  have h : ∀ o : Option α, o = some a → o.bind f = f a := by
    intro o h
    subst h
    rfl
  exact h _ rfl
theorem nw_lus (x : Int64) : ∃ q, q < 2 ^ 31 ∧ mj_lus x 33 = lN q := by
  refine ⟨x.toUInt64.toNat / 2 ^ 33, ?_, ?_⟩
  · have := x.toUInt64.toNat_lt
    omega
  · unfold mj_lus
    rw [show (33 : Int32).toInt64.toUInt64 &&& Int64.toUInt64 63 = 33 by decide +kernel]
    have h1 : (x.toUInt64 >>> 33).toNat = x.toUInt64.toNat / 2 ^ 33 := by
      rw [UInt64.toNat_shiftRight]
      rw [show (33 : UInt64).toNat % 64 = 33 by decide +kernel, Nat.shiftRight_eq_div_pow]
    apply Int64.toBitVec_inj.mp
    show (x.toUInt64 >>> 33).toBitVec = BitVec.ofNat 64 _
    apply BitVec.eq_of_toNat_eq
    rw [BitVec.toNat_ofNat]
    have h2 := (x.toUInt64 >>> 33).toNat_lt
    show (x.toUInt64 >>> 33).toNat = _
    rw [h1] at h2 ⊢
    rw [Nat.mod_eq_of_lt h2]
/-- a draw of one of m -/
def mk_dr (x : Int64) (m : Nat) : Nat := ((mj_lus x 33) - (mj_lus x 33) / lN m * lN m).toInt32.toNatClampNeg
theorem mk_drv (x : Int64) {m : Nat} (h : 0 < m) (hm : m < 2 ^ 31) : ((mj_lus x 33) - (mj_lus x 33) / lN m * lN m).toInt32 = nI (mk_dr x m) ∧ mk_dr x m < m := by
  obtain ⟨q, hq, e⟩ := nw_lus x
  have hlt := Nat.mod_lt q h
  unfold mk_dr
  rw [e, pk_lRem (by omega) h (by omega), lN_i, nI_clamp (by omega)]
  exact ⟨rfl, hlt⟩
def mk_tu (x : Int64) : Int64 := x * 6364136223846793005 + 1442695040888963407
section Years
variable {N : Nat} {S : mk_S} {A : mk_L} {M : mj_M}
theorem mk_Xdrawn (x : Int64) {m : Nat} (h : 0 < m) (hm : m < 2 ^ 31) : F_W_drawn x (nI m) M = some (nI (mk_dr x m), M) := by
  unfold F_W_drawn
  rw [if_neg (nI_nle h hm), nI_l hm, if_neg (show ¬ lN m = (0 : Int64) from (show ¬ lN m = lN 0 by rw [pk_lEQ (by omega) (by omega)]; omega)), (mk_drv x h hm).1]
theorem mk_Mdraw (hM : mk_M S A M) {x y : Int64} (hy : y = mk_tu x) (hx : mj_cat (M 48 33) (M 48 1033) = x) {m : Nat} (h : 0 < m) (hm : m < 2 ^ 31) : ∃ M', F_M_draw (nI m) M = some (nI (mk_dr y m), M') ∧ mk_M S A M' ∧ mk_fm M M' ∧ mj_cat (M' 48 33) (M' 48 1033) = y := by
  unfold F_M_draw
  simp only [mj_lt]
  unfold mk_tu at hy
  rw [hx, nI_l hm, if_neg (show ¬ lN m = (0 : Int64) from (show ¬ lN m = lN 0 by rw [pk_lEQ (by omega) (by omega)]; omega)), ← hy]
  have e : mj_cat (mj_u (mj_u M 48 33 (mj_hi y)) 48 (33 + 1000) (mj_lo y) 48 33) (mj_u (mj_u M 48 33 (mj_hi y)) 48 (33 + 1000) (mj_lo y) 48 1033) = y := by
    rw [mj_u_eq, mj_up_ne _ _ _ (by omega), mj_u_eq, mj_up_eq, show 1033 = 33 + 1000 from rfl, mj_up_eq, mj_cat_eq]
  rw [e, (mk_drv y h hm).1]
  refine ⟨_, rfl, ?_, (mk_fm.rf.u (by omega)).u (by omega), e⟩
  exact hM.sc (fun c j hc => by
    by_cases d : c = 48
    · subst d
      have : j ≠ 33 ∧ j ≠ 33 + 1000 := by unfold mk_sm at hc; omega
      rw [mj_u_eq, mj_up_ne _ _ _ this.2, mj_u_eq, mj_up_ne _ _ _ this.1]
    · rw [nw_u9 _ d, nw_u9 _ d])
/-- walks if he can -/
def mk_wif (S : mk_S) (h : Nat) : mk_S := if nw_d h (S 65 42) ≤ S 65 44 ∧ S 65 45 + nw_d h (S 65 42) ≤ 9999 then mk_walk S h else S
def mk_tif (S : mk_S) (A : mk_L) (t : Nat) : mk_S := if nw_b (S 65 43) t = 0 then S else if S 65 45 + max (mk_now S A (S 65 42) t) 1 ≤ 9999 then mk_tell S t (mk_now S A (S 65 42) t) else S
def mk_bif (S : mk_S) (x : Int64) : mk_S := if S 48 30 ≤ mk_dr x 10 then S else mk_u S 65 44 (min (S 65 44 + 3) 999)
theorem mk_wif_o {h c : Nat} (hc : c ≠ 65) : mk_wif S h c = S c := by unfold mk_wif; split; exact mk_walk_o hc; rfl
theorem mk_tif_o {t c : Nat} (hc : c ≠ 65) : mk_tif S A t c = S c := by unfold mk_tif; split; rfl; split; exact mk_tell_o hc; rfl
theorem mk_bif_o {x : Int64} {c : Nat} (hc : c ≠ 65) : mk_bif S x c = S c := by unfold mk_bif; split; rfl; exact mk_un1 hc
theorem mk_Wwif (hw : mk_W S A) (hr : mk_R0 S) {h : Nat} (hh : h < S 48 25) : mk_W (mk_wif S h) A ∧ mk_R0 (mk_wif S h) := by
  unfold mk_wif
  split
  · rename_i c
    exact ⟨mk_Wwalk hw hh c.2, hr.now' (fun c hc => mk_walk_o hc) (mk_walk_L (by omega) (by omega) (by omega))⟩
  · exact ⟨hw, hr⟩
theorem mk_Wtif (hw : mk_W S A) (hr : mk_R0 S) {t : Nat} (h0 : 0 < S 48 25) (ht : t < S 48 26) : mk_W (mk_tif S A t) A := by
  unfold mk_tif
  split
  · exact hw
  · split
    · rename_i c
      exact mk_Wtell hw hr h0 ht (mk_now20 ..) c
    · exact hw
theorem mk_Wbif (hw : mk_W S A) (x : Int64) : mk_W (mk_bif S x) A := by
  unfold mk_bif
  split
  · exact hw
  · refine hw.now' (fun c hc => mk_un1 hc) ?_ ?_
    · rw [mk_u5]; exact hw.now.u44 hw.t6 (by omega)
    · rw [mk_u5, mj_up_ne _ _ _ (by omega)]
theorem mk_Xwif (hw : mk_W S A) (hX : mk_X S A M) {h : Nat} (hh : h < 6) : ∃ M', F_W_walkIfHeCan (nI h) M = some M' ∧ mk_X (mk_wif S h) A M' ∧ mk_fx M M' := by
  have hs := hw.now.spot
  have hb := hw.now.bread
  have hd : nw_d h (S 65 42) < 20 := by unfold nw_d; omega
  unfold F_W_walkIfHeCan
  rw [mk_Xfar hX hw hh]
  simp only [mk_bs]
  rw [hX.now.2.2.1]
  simp (disch := omega) only [nw_lt]
  unfold mk_wif
  by_cases c : nw_d h (S 65 42) ≤ S 65 44
  · rw [if_neg (by omega), mk_Xdays hX hw (by omega)]
    simp only [mk_bs]
    by_cases d : S 65 45 + nw_d h (S 65 42) ≤ 9999
    · rw [if_neg (show ¬ (if 9999 < S 65 45 + nw_d h (S 65 42) then (0 : Int32) else 1) = 0 by rw [if_neg (by omega)]; decide +kernel), if_pos ⟨c, d⟩]
      obtain ⟨M1, e1, x1⟩ := mk_Xwalk hw hX hh c
      rw [e1]
      exact ⟨M1, rfl, x1⟩
    · rw [if_pos (show (if 9999 < S 65 45 + nw_d h (S 65 42) then (0 : Int32) else 1) = 0 by rw [if_pos (by omega)]), if_neg (fun k => d k.2)]
      exact ⟨M, rfl, hX, mk_fx.rf⟩
  · rw [if_pos (by omega), if_neg (fun k => c k.1)]
    exact ⟨M, rfl, hX, mk_fx.rf⟩
theorem mk_Xtif (hN : 10000 ≤ N) (hw : mk_W S A) (hr : mk_R0 S) (hX : mk_X S A M) {t : Nat} (h0 : 0 < S 48 25) (ht : t < S 48 26) : ∃ M', F_W_tellIfHeCan N (nI t) M = some M' ∧ mk_X (mk_tif S A t) A M' ∧ mk_fx M M' := by
  have t6 := hw.t6
  have hsp := hw.now.spotH h0
  have hb2 := nw_b2 (S 65 43) t
  have h20 := mk_now20 S A (S 65 42) t
  unfold F_W_tellIfHeCan F_Stand_daysOf mk_tif
  rw [mk_Xowns hX hw (by omega)]
  simp only [mk_bs]
  by_cases c : nw_b (S 65 43) t = 0
  · rw [if_pos c, c, if_pos (show nI 0 = (0 : Int32) from rfl)]
    exact ⟨M, rfl, hX, mk_fx.rf⟩
  · rw [if_neg c, show nw_b (S 65 43) t = 1 by omega, if_neg (show ¬ nI 1 = (0 : Int32) by decide +kernel), hX.now.1]
    obtain ⟨M1, e1, x1, f1⟩ := mk_Xnow' (N := N) (by omega) hw hX hsp ht
    rw [e1]
    simp only [mk_bs]
    rw [nl_1, nw_max (by omega) (by omega), mk_Xdays x1 hw (by omega)]
    simp only [mk_bs]
    by_cases d : S 65 45 + max (mk_now S A (S 65 42) t) 1 ≤ 9999
    · rw [if_neg (show ¬ (if 9999 < S 65 45 + max (mk_now S A (S 65 42) t) 1 then (0 : Int32) else 1) = 0 by rw [if_neg (by omega)]; decide +kernel), if_pos d]
      obtain ⟨M2, e2, x2, f2⟩ := mk_Xtell hw x1 hr h0 ht h20
      rw [e2]
      exact ⟨M2, rfl, x2, f1.tr f2⟩
    · rw [if_pos (show (if 9999 < S 65 45 + max (mk_now S A (S 65 42) t) 1 then (0 : Int32) else 1) = 0 by rw [if_pos (by omega)]), if_neg d]
      exact ⟨M1, rfl, x1, f1⟩
theorem mk_M85 (hw : mk_W S A) (hM : mk_M S A M) {x y : Int64} (hy : y = mk_tu x) (hx : mj_cat (M 48 33) (M 48 1033) = x) : ∃ M', F_M_drawRound_b85 N M = some M' ∧ mk_M (mk_bif S y) A M' ∧ mk_fm M M' ∧ mj_cat (M' 48 33) (M' 48 1033) = y := by
  have hb := hw.now.bread
  have hyy := hw.why
  obtain ⟨M1, e1, x1, f1, c1⟩ := mk_Mdraw hM hy hx (m := 10) (by omega) (by omega)
  have hd := (mk_drv y (m := 10) (by omega) (by omega)).2
  clear hy hx
  unfold F_M_drawRound_b85 mk_bif
  rw [nl_10, e1]
  simp only [mk_bs]
  rw [x1.why]
  generalize mk_dr y 10 = dd at *
  simp (disch := omega) only [nw_le]
  by_cases c : S 48 30 ≤ dd
  · rw [if_pos c, if_pos c]
    exact ⟨M1, rfl, x1, f1, c1⟩
  · rw [if_neg c, if_neg c, x1.now 44 (by omega), nl_3, nI_add, nl_999, nw_min (by omega) (by omega), Nat.min_comm]
    refine ⟨mj_u M1 65 44 (nI (min (S 65 44 + 3) 999)), rfl, x1.n, f1.u (by omega), ?_⟩
    rw [nw_u9 _ (by omega)]
    exact c1
theorem mk_M54a (hN : 10000 ≤ N) (hw : mk_W S A) (hM : mk_M S A M) {y z : Int64} (hz : z = mk_tu y) (hx : mj_cat (M 48 33) (M 48 1033) = y) (h0 : 0 < S 48 25) {t : Nat} (ht : t < S 48 26) {S' : mk_S} (hS : S' = mk_tell S t (mk_now S A (S 65 42) t)) (hwt : mk_W S' A) : ∃ M', ((F_M_tellLogged N (nI t) M).bind (fun q14 => F_M_drawRound_b85 N q14.2)) = some M' ∧ mk_M (mk_bif S' z) A M' ∧ mk_fm M M' ∧ mj_cat (M' 48 33) (M' 48 1033) = z := by
  obtain ⟨M3, e3, x3, f3, g3⟩ := mk_Mtell hN hw hM h0 ht
  rw [← hS] at x3
  have c3 : mj_cat (M3 48 33) (M3 48 1033) = y := by rw [g3 48 (by omega) (by omega) (by omega)]; exact hx
  rw [e3]
  simp only [mk_bs]
  obtain ⟨M4, e4, x4, f4, c4⟩ := mk_M85 (N := N) hwt x3 hz c3
  exact ⟨M4, e4, x4, f3.tr f4, c4⟩
theorem mk_M54b (hN : 10000 ≤ N) (hw : mk_W S A) (hr : mk_R0 S) (hM : mk_M S A M) {y z : Int64} (hz : z = mk_tu y) (hx : mj_cat (M 48 33) (M 48 1033) = y) (h0 : 0 < S 48 25) {t : Nat} (ht : t < S 48 26) (hb : nw_b (S 65 43) t = 1) {S' : mk_S} (hS : S' = mk_tif S A t) : ∃ M', ((F_M_isTooLong N (nI t) M).bind (fun q12 => if q12.1 = (0) then ((F_M_tellLogged N (nI t) q12.2).bind (fun q14 => F_M_drawRound_b85 N q14.2)) else (F_M_drawRound_b85 N q12.2))) = some M' ∧ mk_M (mk_bif S' z) A M' ∧ mk_fm M M' ∧ mj_cat (M' 48 33) (M' 48 1033) = z := by
  obtain ⟨M2, e2, x2, f2, g2⟩ := mk_MtooLong hN hw hM h0 ht
  have c2 : mj_cat (M2 48 33) (M2 48 1033) = y := by rw [g2 48 (by omega) (by omega)]; exact hx
  rw [e2]
  simp only [mk_bs]
  have hwt := mk_Wtif (A := A) hw hr h0 ht
  rw [← hS] at hwt
  unfold mk_tif at hS
  rw [if_neg (by omega)] at hS
  generalize hq : S 65 45 + max (mk_now S A (S 65 42) t) 1 = q at *
  by_cases d : q ≤ 9999
  · rw [if_pos d] at hS
    rw [if_pos (show (if q ≤ 9999 then (0 : Int32) else 1) = 0 by rw [if_pos d])]
    obtain ⟨M4, e4, x4, f4, c4⟩ := mk_M54a hN hw x2 hz c2 h0 ht hS hwt
    exact ⟨M4, e4, x4, f2.tr f4, c4⟩
  · rw [if_neg d] at hS
    rw [if_neg (show ¬ (if q ≤ 9999 then (0 : Int32) else 1) = 0 by rw [if_neg d]; decide +kernel)]
    rw [hS]
    obtain ⟨M4, e4, x4, f4, c4⟩ := mk_M85 (N := N) hw x2 hz c2
    exact ⟨M4, e4, x4, f2.tr f4, c4⟩
theorem mk_M54 (hN : 10000 ≤ N) (hw : mk_W S A) (hr : mk_R0 S) (hM : mk_M S A M) {x y z : Int64} (hy : y = mk_tu x) (hz : z = mk_tu y) (hx : mj_cat (M 48 33) (M 48 1033) = x) (h0 : 0 < S 48 25) (hT : 0 < S 48 26) {t : Nat} (htd : t = mk_dr y (S 48 26)) {S' : mk_S} (hS : S' = mk_tif S A t) : ∃ M', F_M_drawRound_b54 N M = some M' ∧ mk_M (mk_bif S' z) A M' ∧ mk_fm M M' ∧ mj_cat (M' 48 33) (M' 48 1033) = z := by
  have t6 := hw.t6
  obtain ⟨M1, e1, x1, f1, c1⟩ := mk_Mdraw hM hy hx (m := S 48 26) hT (by omega)
  have hd := (mk_drv y (m := S 48 26) hT (by omega)).2
  rw [← htd] at e1 hd
  have hb2 := nw_b2 (S 65 43) t
  unfold F_M_drawRound_b54
  rw [hM.ts, e1]
  simp only [mk_bs]
  rw [mk_Mowns x1 hw (by omega)]
  simp only [mk_bs]
  by_cases c : nw_b (S 65 43) t = 0
  · unfold mk_tif at hS
    rw [if_pos c] at hS
    rw [c, if_pos (show nI 0 = (0 : Int32) from rfl), hS]
    obtain ⟨M2, e2, x2, f2, c2⟩ := mk_M85 (N := N) hw x1 hz c1
    exact ⟨M2, e2, x2, f1.tr f2, c2⟩
  · have c' : nw_b (S 65 43) t = 1 := by omega
    rw [c', if_neg (show ¬ nI 1 = (0 : Int32) by decide +kernel)]
    obtain ⟨M2, e2, x2, f2, c2⟩ := mk_M54b hN hw hr x1 hz c1 h0 hd c' hS
    exact ⟨M2, e2, x2, f1.tr f2, c2⟩
end Years
section Years2
variable {N : Nat} {S : mk_S} {A : mk_L} {M : mj_M}
theorem mk_walk0 {h : Nat} (hd : nw_d h (S 65 42) = 0) : mk_walk S h = S := by
  have e : h = S 65 42 := by unfold nw_d at hd; omega
  funext c
  by_cases d : c = 65
  · subst d
    unfold mk_walk
    simp only [mk_u5]
    rw [hd, e]
    funext k
    by_cases k1 : k = 45
    · rw [k1, mj_up_eq]; rfl
    · rw [mj_up_ne _ _ _ k1]
      by_cases k2 : k = 42
      · rw [k2, mj_up_eq]
      · rw [mj_up_ne _ _ _ k2]
        by_cases k3 : k = 44
        · rw [k3, mj_up_eq]; rfl
        · rw [mj_up_ne _ _ _ k3]
  · exact mk_walk_o d
theorem mk_Mround (hN : 10000 ≤ N) (hw : mk_W S A) (hr : mk_R0 S) (hM : mk_M S A M) {w x y z : Int64} (hx : x = mk_tu w) (hy : y = mk_tu x) (hz : z = mk_tu y) (hc : mj_cat (M 48 33) (M 48 1033) = w) (h0 : 0 < S 48 25) (hT : 0 < S 48 26) {h t : Nat} (hhd : h = mk_dr x (S 48 25)) (htd : t = mk_dr y (S 48 26)) {S1 S2 S3 : mk_S} (hS1 : S1 = mk_wif S h) (hS2 : S2 = mk_tif S1 A t) (hS3 : S3 = mk_bif S2 z) : ∃ M', F_M_drawRound N M = some M' ∧ mk_M S3 A M' ∧ mk_fm M M' ∧ mj_cat (M' 48 33) (M' 48 1033) = z := by
  have h6 := hw.h6
  have hs := hw.now.spot
  have hb := hw.now.bread
  obtain ⟨M1, e1, x1, f1, c1⟩ := mk_Mdraw hM hx hc (m := S 48 25) h0 (by omega)
  have hd := (mk_drv x (m := S 48 25) h0 (by omega)).2
  rw [← hhd] at e1 hd
  have hdd : nw_d h (S 65 42) < 20 := by unfold nw_d; omega
  have hw1 := mk_Wwif (A := A) hw hr hd
  rw [← hS1] at hw1
  have e25 : S1 48 = S 48 := by rw [hS1]; exact mk_wif_o (by omega)
  have key : ∀ M2, mk_M S1 A M2 → mk_fm M M2 → mj_cat (M2 48 33) (M2 48 1033) = x → ∃ M', F_M_drawRound_b54 N M2 = some M' ∧ mk_M S3 A M' ∧ mk_fm M M' ∧ mj_cat (M' 48 33) (M' 48 1033) = z := by
    intro M2 x2 f2 c2
    obtain ⟨M3, e3, x3, f3, c3⟩ := mk_M54 hN hw1.1 hw1.2 x2 hy hz c2 (by rw [e25]; exact h0) (by rw [e25]; exact hT) (t := t) (by rw [e25]; exact htd) hS2
    rw [← hS3] at x3
    exact ⟨M3, e3, x3, f2.tr f3, c3⟩
  unfold F_M_drawRound
  rw [hM.hs, e1]
  simp only [mk_bs]
  rw [mk_Mfar x1 hw (by omega)]
  simp only [mk_bs]
  rw [x1.now 44 (by omega)]
  unfold mk_wif at hS1
  by_cases cc : nw_d h (S 65 42) = 0
  · rw [cc, if_pos (show nI 0 ≤ (0 : Int32) by decide +kernel)]
    have : S1 = S := by
      rw [hS1]
      split
      · exact mk_walk0 cc
      · rfl
    refine key M1 ?_ f1 c1
    rw [this]
    exact x1
  · rw [if_neg (show ¬ nI (nw_d h (S 65 42)) ≤ (0 : Int32) from nI_nle (by omega) (by omega))]
    by_cases c : nw_d h (S 65 42) ≤ S 65 44
    · rw [if_neg (show ¬ nI (S 65 44) < nI (nw_d h (S 65 42)) from nI_nlt c (by omega)), mk_Mlate x1 hw (by omega)]
      simp only [mk_bs]
      by_cases d : S 65 45 + nw_d h (S 65 42) ≤ 9999
      · rw [if_pos (show (if S 65 45 + nw_d h (S 65 42) ≤ 9999 then (0 : Int32) else 1) = 0 by rw [if_pos d])]
        rw [if_pos ⟨c, d⟩] at hS1
        obtain ⟨M2, e2, x2, f2⟩ := mk_Mwalk hw x1 (show h < 6 by omega) c rfl
        rw [← hS1] at x2
        cases hg : F_M_goNow (nI h) M1 with
        | none => rw [hg] at e2; cases e2
        | some q =>
          rw [hg] at e2
          have e2 := Option.some.inj e2
          simp only [mk_bs, mj_lt]
          rw [e2]
          have e48 : M2 48 = M1 48 := by
            rw [← e2, nw_u9 _ (by omega)]
            unfold F_M_goNow at hg
            rw [mk_Mfar x1 hw (by omega)] at hg
            simp only [mk_bs, mj_lt] at hg
            rw [← Option.some.inj hg, nw_u9 _ (by omega), nw_u9 _ (by omega)]
          exact key M2 x2 (f1.tr f2) (by rw [e48]; exact c1)
      · rw [if_neg (show ¬ (if S 65 45 + nw_d h (S 65 42) ≤ 9999 then (0 : Int32) else 1) = 0 by rw [if_neg d]; decide +kernel)]
        rw [if_neg (fun k => d k.2)] at hS1
        refine key M1 ?_ f1 c1
        rw [hS1]
        exact x1
    · rw [if_pos (show nI (S 65 44) < nI (nw_d h (S 65 42)) from nI_lt (by omega) (by omega))]
      rw [if_neg (fun k => c k.1)] at hS1
      refine key M1 ?_ f1 c1
      rw [hS1]
      exact x1
theorem mk_Xround (hN : 10000 ≤ N) (hw : mk_W S A) (hX : mk_X S A M) {w x y z : Int64} (hx : x = mk_tu w) (hy : y = mk_tu x) (hz : z = mk_tu y) (h0 : 0 < S 48 25) (hT : 0 < S 48 26) {h t : Nat} (hhd : h = mk_dr x (S 48 25)) (htd : t = mk_dr y (S 48 26)) {S0 S1 S2 S3 : mk_S} (hS0 : S0 = mk_keep S) (hS1 : S1 = mk_wif S0 h) (hS2 : S2 = mk_tif S1 A t) (hS3 : S3 = mk_bif S2 z) {k i m : Nat} (hi : i < k) (hk : k ≤ 60) : ∃ M', F_W_years_b29 N (m + 1) (nI k) w (nI i) M = F_W_years_b29 N m (nI k) z (nI (i + 1)) M' ∧ mk_X S3 A M' ∧ mk_fx M M' := by
  have h6 := hw.h6
  have t6 := hw.t6
  have hwk := hw.keep h0
  rw [← hS0] at hwk
  have e48 : S0 48 25 = S 48 25 ∧ S0 48 26 = S 48 26 := by rw [hS0]; exact ⟨mk_kH, mk_kT⟩
  have hd := (mk_drv x (m := S 48 25) h0 (by omega)).2
  have hd2 := (mk_drv y (m := S 48 26) hT (by omega)).2
  rw [← hhd] at hd
  rw [← htd] at hd2
  have hw1 := mk_Wwif (A := A) hwk.1 hwk.2 (h := h) (by rw [e48.1]; exact hd)
  rw [← hS1] at hw1
  have e1 : S1 48 = S0 48 := by rw [hS1]; exact mk_wif_o (by omega)
  have hw2 := mk_Wtif (A := A) hw1.1 hw1.2 (t := t) (by rw [e1, e48.1]; exact h0) (by rw [e1, e48.2]; exact hd2)
  rw [← hS2] at hw2
  obtain ⟨M0, q0, x0, f0⟩ := mk_Xkeep hw hX
  rw [← hS0] at x0
  obtain ⟨M1, q1, x1, f1⟩ := mk_Xwif hwk.1 x0 (show h < 6 by omega)
  rw [← hS1] at x1
  obtain ⟨M2, q2, x2, f2⟩ := mk_Xtif hN hw1.1 hw1.2 x1 (t := t) (by rw [e1, e48.1]; exact h0) (by rw [e1, e48.2]; exact hd2)
  rw [← hS2] at x2
  have hb2 := hw2.now.bread
  have hy2 := hw2.why
  have hdz := (mk_drv z (m := 10) (by omega) (by omega)).2
  rw [F_W_years_b29, if_neg (nI_ge hi (by omega)), q0]
  simp only [mk_bs]
  have tu : ∀ (a b : Int64) (M : mj_M), b = mk_tu a → F_W_turned a M = some (b, M) := fun a b M e => by rw [e]; rfl
  rw [tu w x M0 hx]
  simp only [mk_bs]
  rw [x0.hs, e48.1, mk_Xdrawn x h0 (by omega), ← hhd]
  simp only [mk_bs]
  rw [q1]
  simp only [mk_bs]
  rw [tu x y M1 hy]
  simp only [mk_bs]
  rw [x1.ts, e1, e48.2, mk_Xdrawn y hT (by omega), ← htd]
  simp only [mk_bs]
  rw [q2]
  simp only [mk_bs]
  rw [tu y z M2 hz]
  simp only [mk_bs]
  rw [nl_10, mk_Xdrawn z (by omega) (by omega)]
  simp only [mk_bs, mj_lt]
  rw [x2.why, x2.now.2.2.1, nl_3, nI_add, nl_999, nw_min (by omega) (by omega), nI_1]
  unfold mk_bif at hS3
  generalize mk_dr z 10 = dd at *
  simp (disch := omega) only [nw_le]
  by_cases c : S2 48 30 ≤ dd
  · rw [if_pos c] at hS3
    rw [if_pos c, hS3]
    exact ⟨M2, rfl, x2, (f0.tr f1).tr f2⟩
  · rw [if_neg c] at hS3
    rw [if_neg c, hS3]
    exact ⟨_, rfl, x2.n44 hw2.t6, ((f0.tr f1).tr f2).u (by omega)⟩
theorem mk_years (hN : 10000 ≤ N) {k : Nat} (hk : k ≤ 60) : ∀ d i (S : mk_S) (w : Int64) n1 n2, i + d = k → d < n1 → d < n2 → mk_W S A → 0 < S 48 25 → 0 < S 48 26 → ∃ S' r, mk_W S' A ∧ (∀ M, mk_X S A M → ∃ M', F_W_years_b29 N n1 (nI k) w (nI i) M = some (r, M') ∧ mk_X S' A M' ∧ mk_fx M M') ∧ (∀ M, mk_M S A M → mj_cat (M 48 33) (M 48 1033) = w → ∃ M', F_M_years_b27 N n2 (nI k) (nI i) M = some (r, M') ∧ mk_M S' A M' ∧ mk_fm M M') := by
  intro d
  induction d with
  | zero =>
    intro i S w n1 n2 hi h1 h2 hw h0 hT
    obtain ⟨n1, rfl⟩ : ∃ k, n1 = k + 1 := ⟨n1 - 1, by omega⟩
    obtain ⟨n2, rfl⟩ : ∃ k, n2 = k + 1 := ⟨n2 - 1, by omega⟩
    have : i = k := by omega
    subst this
    refine ⟨S, nI (S 65 45), hw, fun M hX => ⟨M, ?_, hX, mk_fx.rf⟩, fun M hM _ => ⟨M, ?_, hM, mk_fm.rf⟩⟩
    · rw [F_W_years_b29, if_pos (Int32.le_refl _), hX.now.2.2.2.1]
    · rw [F_M_years_b27, if_pos (Int32.le_refl _), hM.now 45 (by omega)]
  | succ d ih =>
    intro i S w n1 n2 hi h1 h2 hw h0 hT
    obtain ⟨n1, rfl⟩ : ∃ k, n1 = k + 1 := ⟨n1 - 1, by omega⟩
    obtain ⟨n2, rfl⟩ : ∃ k, n2 = k + 1 := ⟨n2 - 1, by omega⟩
    have h6 := hw.h6
    have t6 := hw.t6
    obtain ⟨x, hx⟩ : ∃ x, x = mk_tu w := ⟨_, rfl⟩
    obtain ⟨y, hy⟩ : ∃ y, y = mk_tu x := ⟨_, rfl⟩
    obtain ⟨z, hz⟩ : ∃ z, z = mk_tu y := ⟨_, rfl⟩
    obtain ⟨h, hhd⟩ : ∃ h, h = mk_dr x (S 48 25) := ⟨_, rfl⟩
    obtain ⟨t, htd⟩ : ∃ t, t = mk_dr y (S 48 26) := ⟨_, rfl⟩
    obtain ⟨S0, hS0⟩ : ∃ S0, S0 = mk_keep S := ⟨_, rfl⟩
    obtain ⟨S1, hS1⟩ : ∃ S1, S1 = mk_wif S0 h := ⟨_, rfl⟩
    obtain ⟨S2, hS2⟩ : ∃ S2, S2 = mk_tif S1 A t := ⟨_, rfl⟩
    obtain ⟨S3, hS3⟩ : ∃ S3, S3 = mk_bif S2 z := ⟨_, rfl⟩
    have hwk := hw.keep h0
    rw [← hS0] at hwk
    have e48 : S0 48 25 = S 48 25 ∧ S0 48 26 = S 48 26 := by rw [hS0]; exact ⟨mk_kH, mk_kT⟩
    have hd1 := (mk_drv x (m := S 48 25) h0 (by omega)).2
    have hd2 := (mk_drv y (m := S 48 26) hT (by omega)).2
    rw [← hhd] at hd1
    rw [← htd] at hd2
    have hw1 := mk_Wwif (A := A) hwk.1 hwk.2 (h := h) (by rw [e48.1]; exact hd1)
    rw [← hS1] at hw1
    have e1 : S1 48 = S0 48 := by rw [hS1]; exact mk_wif_o (by omega)
    have hw2 := mk_Wtif (A := A) hw1.1 hw1.2 (t := t) (by rw [e1, e48.1]; exact h0) (by rw [e1, e48.2]; exact hd2)
    rw [← hS2] at hw2
    have hw3 := mk_Wbif hw2 z
    rw [← hS3] at hw3
    have e3 : S3 48 = S0 48 := by rw [hS3, mk_bif_o (by omega), hS2, mk_tif_o (by omega), e1]
    obtain ⟨S', r, hW, ex, em⟩ := ih (i + 1) S3 z n1 n2 (by omega) (by omega) (by omega) hw3 (by rw [e3, e48.1]; exact h0) (by rw [e3, e48.2]; exact hT)
    refine ⟨S', r, hW, fun M hX => ?_, fun M hM hc => ?_⟩
    · obtain ⟨M1, q1, x1, f1⟩ := mk_Xround hN hw hX hx hy hz h0 hT hhd htd hS0 hS1 hS2 hS3 (m := n1) (show i < k by omega) hk
      obtain ⟨M2, q2, x2, f2⟩ := ex M1 x1
      exact ⟨M2, q1.trans q2, x2, f1.tr f2⟩
    · obtain ⟨M0, q0, x0, f0, c0⟩ : ∃ M', F_M_keep N M = some M' ∧ mk_M S0 A M' ∧ mk_fm M M' ∧ mj_cat (M' 48 33) (M' 48 1033) = w := by
        obtain ⟨M0, q0, x0, f0, g0⟩ := mk_Mkeep' hN hw hM
        rw [← hS0] at x0
        exact ⟨M0, q0, x0, f0, by rw [g0 33 (by omega), g0 1033 (by omega)]; exact hc⟩
      obtain ⟨M1, q1, x1, f1, c1⟩ := mk_Mround hN hwk.1 hwk.2 x0 hx hy hz c0 (by rw [e48.1]; exact h0) (by rw [e48.2]; exact hT) (h := h) (t := t) (by rw [e48.1]; exact hhd) (by rw [e48.2]; exact htd) hS1 hS2 hS3
      obtain ⟨M2, q2, x2, f2⟩ := em M1 x1 c1
      refine ⟨M2, ?_, x2, (f0.tr f1).tr f2⟩
      rw [F_M_years_b27, if_neg (nI_ge (by omega) (by omega)), q0]
      simp only [mk_bs]
      rw [q1]
      simp only [mk_bs]
      rw [nI_1]
      exact q2
end Years2
theorem op_16 {N : Nat} (hN : 10000 ≤ N) : mo_16 N mk_I := by
  intro M ⟨S, A, hw, hX, hM⟩ a b c
  generalize (((b.toInt64) <<< 32) ||| ((c.toInt64) &&& (4294967295 : Int64))) = sd
  have h6 := hw.h6
  have hht := hw.ht
  by_cases c0 : S 48 25 = 0
  · refine mk_fin (r := -1) hw hX hM (mk_QX.same fun M hX => ?_) (mk_QM.same fun M hM => ?_)
    · unfold F_W_years; rw [mk_Xtold0 hX c0]; rfl
    · unfold F_M_years; rw [if_pos (mk_H0 hM c0)]
  have no : a < nI 1 ∨ nI (60 + 1) ≤ a → ∃ r M1 M2, F_W_years N a sd M = some (r, M1) ∧ F_M_years N a sd M1 = some (r, M2) ∧ mk_I M2 := by
    intro h'
    refine mk_fin (r := -1) hw hX hM (mk_QX.same fun M hX => ?_) (mk_QM.same fun M hM => ?_)
    · unfold F_W_years
      rw [mk_Xtold1 hX hw (by omega)]
      simp only [mk_bs]
      rw [if_neg (by decide +kernel)]
      by_cases d : a < 1
      · rw [if_pos d]
      · rw [if_neg d, nl_60, if_neg (nw_gt (h'.resolve_left d) (by omega)).2.1]
    · unfold F_M_years
      rw [if_neg (mk_H1 hM hw c0), nl_60, show F_M_in a 1 (nI 60) M = some (nI 0, M) from mk_Mloo (lo := 1) h' (by omega)]
      rfl
  rcases mk_ix a (n := 61) (by omega) with h' | ⟨k, hk, rfl⟩
  · refine no (h'.imp (fun k => ?_) id)
    have h1 := Int32.lt_iff_toInt_lt.mp k
    apply Int32.lt_iff_toInt_lt.mpr
    rw [nI_toInt (by omega)]
    rw [show (0 : Int32).toInt = 0 from rfl] at h1
    omega
  by_cases k0 : k = 0
  · subst k0
    exact no (Or.inl (by decide +kernel))
  obtain ⟨S', r, hW, ex, em⟩ := mk_years (A := A) hN (k := k) (by omega) k 0 S sd N N (by omega) (by omega) (by omega) hw (by omega) (by omega)
  refine mk_fin (S' := S') (A' := A) (r := r) hW hX hM (fun M hX => ?_) (fun M hM => ?_)
  · obtain ⟨M1, q1, x1⟩ := ex M hX
    refine ⟨M1, ?_, x1⟩
    unfold F_W_years
    rw [mk_Xtold1 hX hw (by omega)]
    simp only [mk_bs]
    rw [if_neg (by decide +kernel), nl_1, if_neg (nI_nlt (by omega) (by omega)), nl_60, if_pos (nI_le (by omega) (by omega))]
    exact q1
  · have hM4 : mk_M S A (mj_u (mj_u M 48 33 (mj_hi sd)) 48 (33 + 1000) (mj_lo sd)) := hM.sc (fun c j hc => by
      by_cases d : c = 48
      · subst d
        have : j ≠ 33 ∧ j ≠ 33 + 1000 := by unfold mk_sm at hc; omega
        rw [mj_u_eq, mj_up_ne _ _ _ this.2, mj_u_eq, mj_up_ne _ _ _ this.1]
      · rw [nw_u9 _ d, nw_u9 _ d])
    obtain ⟨M1, q1, x1, f1⟩ := em _ hM4 (by rw [mj_u_eq, mj_up_ne _ _ _ (by omega), mj_u_eq, mj_up_eq, show 1033 = 33 + 1000 from rfl, mj_up_eq, mj_cat_eq])
    refine ⟨M1, ?_, x1, ((mk_fm.rf.u (by omega)).u (by omega)).tr f1⟩
    unfold F_M_years
    rw [if_neg (mk_H1 hM hw c0), nl_60, show F_M_in (nI k) 1 (nI 60) M = some (nI 1, M) from mk_Mlo (lo := 1) (by omega) (by omega) (by omega)]
    simp only [mk_bs]
    rw [if_neg (show ¬ nI 1 = (0 : Int32) by decide +kernel)]
    exact q1
