/-! ===== how long he stays, on both sides ===== -/
def mk_lt (S : mk_S) (h t he kn : Nat) : Nat → Int
  | 0 => S 64 (3 * t)
  | 1 => kn
  | 2 => S 63 (3 * h + 1)
  | 3 => he
  | 4 => S 63 (3 * h + 2)
  | _ => S 64 (3 * t + 2)
def mk_w (S : mk_S) (A : mk_L) (h t he kn : Nat) : Int32 :=
  if S 48 29 = 0 then nI (if S 62 3 ≤ he then 0 else S 64 (3 * t)) + nI kn + nI (S 63 (3 * h + 1)) / nI 3 + nI 2 * nI (S 64 (3 * t + 2)) - nI he
  else iI (mk_wo (mk_lt S h t he kn) (A (S 48 29 - 1)))
def mk_by (S : mk_S) (A : mk_L) (h t he kn : Nat) : Nat := (mj_max 0 (mj_min (mk_w S A h t he kn) 20)).toNatClampNeg
theorem mk_mm (w : Int32) : mj_max 0 (mj_min w 20) = nI (mj_max 0 (mj_min w 20)).toNatClampNeg ∧ (mj_max 0 (mj_min w 20)).toNatClampNeg ≤ 20 ∧ mj_max 0 (mj_min 20 w) = mj_max 0 (mj_min w 20) := by
  have h0 : mj_max 0 (mj_min w 20) = nI (mj_max 0 (mj_min w 20)).toNatClampNeg ∧ (mj_max 0 (mj_min w 20)).toNatClampNeg ≤ 20 := by
    rcases pk_ix w (n := 20) (by omega) with h | h | ⟨j, hj, rfl⟩
    · have : mj_max 0 (mj_min w 20) = 0 := by
        unfold mj_max mj_min
        have h1 := Int32.lt_iff_toInt_lt.mp h
        rw [if_neg (show ¬ (20 : Int32) < w from fun k => by have := Int32.lt_iff_toInt_lt.mp k; rw [show (20 : Int32).toInt = 20 from rfl] at this; rw [show (0 : Int32).toInt = 0 from rfl] at h1; omega), if_neg (show ¬ (0 : Int32) < w from fun k => by have := Int32.lt_iff_toInt_lt.mp k; omega)]
      rw [this]; decide +kernel
    · have : mj_max 0 (mj_min w 20) = 20 := by
        unfold mj_max mj_min
        have h1 := Int32.le_iff_toInt_le.mp h
        rw [nI_toInt (by omega)] at h1
        by_cases c : (20 : Int32) < w
        · rw [if_pos c, if_pos (by decide +kernel)]
        · rw [if_neg c]
          have : w = 20 := by
            apply Int32.toInt_inj.mp
            have c2 : ¬ (20 : Int32).toInt < w.toInt := fun k => c (Int32.lt_iff_toInt_lt.mpr k)
            rw [show (20 : Int32).toInt = 20 from rfl] at c2 ⊢
            omega
          rw [this, if_pos (by decide +kernel)]
      rw [this]; decide +kernel
    · rw [nl_0, nl_20, nw_min (by omega) (by omega), nw_max (by omega) (by omega), nI_clamp (by omega)]
      exact ⟨rfl, by omega⟩
  refine ⟨h0.1, h0.2, ?_⟩
  unfold mj_min
  by_cases c : (20 : Int32) < w
  · rw [if_pos c, if_neg]
    intro k
    have h1 := Int32.lt_iff_toInt_lt.mp c
    have h2 := Int32.lt_iff_toInt_lt.mp k
    omega
  · by_cases d : w < 20
    · rw [if_neg c, if_pos d]
    · have : w = 20 := by
        apply Int32.toInt_inj.mp
        have h1 : ¬ (20 : Int32).toInt < w.toInt := fun k => c (Int32.lt_iff_toInt_lt.mpr k)
        have h2 : ¬ w.toInt < (20 : Int32).toInt := fun k => d (Int32.lt_iff_toInt_lt.mpr k)
        omega
      rw [this]
theorem mk_by20 (S : mk_S) (A : mk_L) (h t he kn : Nat) : mk_by S A h t he kn ≤ 20 := (mk_mm _).2.1
theorem mk_by_x (S : mk_S) (A : mk_L) (h t he kn : Nat) : mj_max 0 (mj_min (mk_w S A h t he kn) 20) = nI (mk_by S A h t he kn) := (mk_mm _).1
theorem mk_by_m (S : mk_S) (A : mk_L) (h t he kn : Nat) : mj_max 0 (mj_min 20 (mk_w S A h t he kn)) = nI (mk_by S A h t he kn) := (mk_mm _).2.2.trans (mk_mm _).1
section By
variable {N : Nat} {S : mk_S} {A : mk_L} {M : mj_M}
theorem mk_hold0 (hw : mk_W S A) : (nI (S 48 29) - nI 1 = -nI 1) = (S 48 29 = 0) := by
  have := hw.hold
  have := hw.laws
  refine propext ⟨fun e => ?_, fun e => by rw [e]; rfl⟩
  cases hn : S 48 29 with
  | zero => rfl
  | succ n =>
    rw [hn, show nI (n + 1) - nI 1 = nI n from nI_pred n] at e; simp (disch := omega) only [nw_eqm] at e
theorem mk_hold1 (hw : mk_W S A) (h : ¬ S 48 29 = 0) : nI (S 48 29) - nI 1 = nI (S 48 29 - 1) := pk_sub (by omega)
theorem mk_Xby_tail (hN : 1000 ≤ N) (hw : mk_W S A) (hX : mk_X S A M) {h t he kn : Nat} (hh : h < S 48 25) (ht : t < S 48 26) (h99 : he ≤ 99) {M6 : mj_M} (f : ∀ c, c ≠ 9 → M6 c = M c) (hL : mk_lt6 (M6 9) (mk_lt S h t he kn)) : ∃ M', (if (M 8 1) = (-1 : Int32) then ((F_Stays_worthWithoutLaw (nI h) (nI t) (nI he) (nI kn) M6).bind (fun q9 => F_Stays_by_b123 N q9.1 q9.2)) else ((F_Laws_worth N M6).bind (fun q8 => F_Stays_by_b123 N q8.1 q8.2))) = some (nI (mk_by S A h t he kn), M') ∧ ∀ c, c ≠ 9 → c ≠ 12 → M' c = M c := by
  have h6 := hw.h6
  have t6 := hw.t6
  have ho := hw.often
  have hlaws := hw.laws
  have hhold := hw.hold
  rw [hX.hold, nl_m1]; simp only [mk_hold0 hw]
  by_cases c : S 48 29 = 0
  · rw [if_pos c]
    have e : F_Stays_worthWithoutLaw (nI h) (nI t) (nI he) (nI kn) M6 = some (mk_w S A h t he kn, M6) := by
      unfold F_Stays_worthWithoutLaw F_Stays_worthWithoutLaw_b24 mk_w
      rw [if_pos c, f 13 (by omega), hX.often, f 15 (by omega), f 19 (by omega), f 17 (by omega)]
      simp (disch := omega) only [nw_ck, nI_clamp]
      rw [hX.cur h hh, hX.tru t ht, hX.len t ht]; simp (disch := omega) only [nw_le]
      split <;> rfl
    rw [e]
    refine ⟨M6, ?_, fun c h9 _ => f c h9⟩
    show some (mj_max 0 (mj_min (mk_w S A h t he kn) 20), M6) = _
    rw [mk_by_x]
  · rw [if_neg c]
    have hn : S 48 29 - 1 < S 48 13 := by omega
    obtain ⟨w1, w2⟩ := hw.wl _ hn
    obtain ⟨M7, e7, f7⟩ := mk_xcs (N := N) (L := mk_lt S h t he kn) (A (S 48 29 - 1)) (n := N - ((mk_en (A (S 48 29 - 1))).length + 1)) (p := 240 * (S 48 29 - 1)) (M := M6) w1 hL (by rw [f 10 (by omega)]; exact hX.codes _ hn) (by omega)
    have e : F_Laws_worth N M6 = some (iI (mk_wo (mk_lt S h t he kn) (A (S 48 29 - 1))), M7) := by
      unfold F_Laws_worth
      simp only [mj_lt]
      rw [f 8 (by omega), hX.hold, mk_hold1 hw c, hX.laws, if_neg (nI_pos (by omega)), if_pos (nI_lt hn (by omega)), nw_ck (by omega) (by omega), nI_clamp (by omega), f 11 (by omega), hX.lens _ hn, nl_240, pk_mul, nI_add, Nat.mul_comm]
      rw [show N - ((mk_en (A (S 48 29 - 1))).length + 1) + (mk_en (A (S 48 29 - 1))).length + 1 = N by omega] at e7
      exact e7
    rw [e]
    refine ⟨M7, ?_, fun c h9 h12 => (f7 c h12).trans (f c h9)⟩
    show some (mj_max 0 (mj_min (iI (mk_wo (mk_lt S h t he kn) (A (S 48 29 - 1)))) 20), M7) = _
    have e2 : mk_w S A h t he kn = iI (mk_wo (mk_lt S h t he kn) (A (S 48 29 - 1))) := if_neg c
    rw [← e2, mk_by_x]
theorem mk_Xby (hN : 1000 ≤ N) (hw : mk_W S A) (hX : mk_X S A M) {h t he kn : Nat} (hh : h < S 48 25) (ht : t < S 48 26) (h99 : he ≤ 99) (hk : kn ≤ 9) : ∃ M', F_Stays_by N (nI h) (nI t) (nI he) (nI kn) M = some (nI (mk_by S A h t he kn), M') ∧ ∀ c, c ≠ 9 → c ≠ 12 → M' c = M c := by
  have h6 := hw.h6
  have t6 := hw.t6
  have hho := hw.house h hh
  have hta := hw.tale t ht
  unfold F_Stays_by
  simp only [mj_lt]
  simp (disch := omega) only [nw_ck, nI_clamp, nw_u9]
  rw [hX.len t ht, hX.cur h hh, hX.warm h hh, hX.tru t ht]
  refine mk_Xby_tail hN hw hX hh ht h99 ?_ ?_
  · intro c hc
    simp (disch := omega) only [nw_u9]
  intro i hi
  have hi : i = 0 ∨ i = 1 ∨ i = 2 ∨ i = 3 ∨ i = 4 ∨ i = 5 := by omega
  rcases hi with rfl | rfl | rfl | rfl | rfl | rfl
  all_goals
    simp (disch := omega) only [mj_u_eq, mj_up_eq, mj_up_ne, mk_lt, iI_n]
    refine ⟨trivial, by omega, by omega⟩
theorem mk_Mby_tail (hN : 1000 ≤ N) (hw : mk_W S A) (hM : mk_M S A M) {h t he kn : Nat} (c : ¬ S 48 29 = 0) {M6 : mj_M} (f : ∀ c, c ≠ 57 → M6 c = M c) (hL : mk_lt6 (M6 57) (mk_lt S h t he kn)) : ∃ M', ((F_M_worthOf N (M6 48 29) M6).bind (fun q17 => F_M_nightsBy_b127 N q17.1 q17.2)) = some (nI (mk_by S A h t he kn), M') ∧ ∀ c, c ≠ 57 → c ≠ 58 → M' c = M c := by
  have hlaws := hw.laws
  have hhold := hw.hold
  have hn : S 48 29 - 1 < S 48 13 := by omega
  obtain ⟨w1, w2⟩ := hw.wl _ hn
  obtain ⟨l1, l2⟩ := mk_en_len _ w1
  rw [f 48 (by omega), hM.hold, mk_hold1 hw c]
  obtain ⟨M7, e7, f7⟩ := mk_mcs (N := N) (L := mk_lt S h t he kn) (b := S 48 29 - 1) (by omega) (A (S 48 29 - 1)) (n := N - ((A (S 48 29 - 1)).length + 1)) (c := 140 * (S 48 29 - 1)) (p := 0) (M := M6) w1 hL (mk_cl_cg (f 50 (by omega)) (f 51 (by omega)) (f 54 (by omega)) (f 55 (by omega)) (f 56 (by omega)) _ _ _ (hM.codes _ hn)) (by rw [f 53 (by omega), hM.lens _ hn]; congr 1; omega) (by omega) (by omega) (by omega) (by omega)
  have e : F_M_worthOf N (nI (S 48 29 - 1)) M6 = some (iI (mk_wo (mk_lt S h t he kn) (A (S 48 29 - 1))), M7) := by
    unfold F_M_worthOf
    simp only [mj_lt]
    rw [nl_140, pk_mul]
    rw [show N - ((A (S 48 29 - 1)).length + 1) + (A (S 48 29 - 1)).length + 1 = N by omega] at e7
    exact e7
  rw [e]
  refine ⟨M7, ?_, fun c h9 h12 => (f7 c h12).trans (f c h9)⟩
  show some (mj_max 0 (mj_min 20 (iI (mk_wo (mk_lt S h t he kn) (A (S 48 29 - 1))))), M7) = _
  have e2 : mk_w S A h t he kn = iI (mk_wo (mk_lt S h t he kn) (A (S 48 29 - 1))) := if_neg c
  rw [← e2, mk_by_m]
theorem mk_ofTale (hM : mk_M S A M) (hw : mk_W S A) {t k : Nat} (ht : t < S 48 26) (hk : k < 3) : F_M_ofTale (nI t) (nI k) M = some (nI (S 64 (3 * t + k)), M) := by
  have t6 := hw.t6
  unfold F_M_ofTale
  rw [nl_3, pk_mul, nI_add, nw_ck (by omega) (by omega), nI_clamp (by omega), hM.tale _ (by omega)]
theorem mk_ofHouse (hM : mk_M S A M) (hw : mk_W S A) {h k : Nat} (hh : h < S 48 25) (hk : k < 3) : F_M_ofHouse (nI h) (nI k) M = some (nI (S 63 (3 * h + k)), M) := by
  have h6 := hw.h6
  unfold F_M_ofHouse
  rw [nl_3, pk_mul, nI_add, nw_ck (by omega) (by omega), nI_clamp (by omega), hM.house _ (by omega)]
theorem mk_M.u57 {k : Nat} {v : Int32} (hM : mk_M S A M) : mk_M S A (mj_u M 57 k v) := hM.sc (fun c j h => by rw [nw_u9 _ (by rintro rfl; exact h (by unfold mk_sm; omega))])
theorem mk_Mby (hN : 1000 ≤ N) (hw : mk_W S A) (hM : mk_M S A M) {h t he kn : Nat} (hh : h < S 48 25) (ht : t < S 48 26) (h99 : he ≤ 99) (hk : kn ≤ 9) : ∃ M', F_M_nightsBy N (nI h) (nI t) (nI kn) (nI he) M = some (nI (mk_by S A h t he kn), M') ∧ ∀ c, c ≠ 57 → c ≠ 58 → M' c = M c := by
  have h6 := hw.h6
  have t6 := hw.t6
  have ho := hw.often
  have hho := hw.house h hh
  have hta := hw.tale t ht
  have E : F_M_nightsBy N (nI h) (nI t) (nI kn) (nI he) M = F_M_nightsBy_b21 N (nI h) (nI t) (nI kn) (nI he) (nI (if S 62 3 ≤ he then 0 else S 64 (3 * t))) M := by
    unfold F_M_nightsBy
    rw [hM.often]; simp (disch := omega) only [nw_le]; rw [nl_0, mk_ofTale hM hw ht (by omega)]
    split <;> rfl
  rw [E]
  unfold F_M_nightsBy_b21
  simp only [mj_lt]
  rw [nl_1, nl_2, nl_0, mk_ofHouse hM hw hh (by omega)]
  simp only [Option.bind_some]
  rw [mk_ofTale hM hw ht (by omega)]
  simp only [Option.bind_some]
  rw [hM.hold]; simp only [mk_hold0 hw]
  by_cases c : S 48 29 = 0
  · rw [if_pos c]
    refine ⟨M, ?_, fun _ _ _ => rfl⟩
    show some (mj_max 0 (mj_min 20 _), M) = _
    have e2 : mk_w S A h t he kn = nI (if S 62 3 ≤ he then 0 else S 64 (3 * t)) + nI kn + nI (S 63 (3 * h + 1)) / nI 3 + nI 2 * nI (S 64 (3 * t + 2)) - nI he := if_pos c
    rw [nl_3, ← e2, mk_by_m]
  · rw [if_neg c]
    rw [mk_ofTale hM hw ht (by omega)]
    simp only [Option.bind_some]
    rw [mk_ofHouse hM.u57.u57 hw hh (by omega)]
    simp only [Option.bind_some]
    rw [mk_ofHouse hM.u57.u57.u57.u57 hw hh (by omega)]
    simp only [Option.bind_some]
    rw [mk_ofTale hM.u57.u57.u57.u57.u57 hw ht (by omega)]
    simp only [Option.bind_some]
    refine mk_Mby_tail hN hw hM c ?_ ?_
    · intro c hc
      simp (disch := omega) only [nw_u9]
    intro i hi
    have hi : i = 0 ∨ i = 1 ∨ i = 2 ∨ i = 3 ∨ i = 4 ∨ i = 5 := by omega
    rcases hi with rfl | rfl | rfl | rfl | rfl | rfl
    all_goals
      simp (disch := omega) only [mj_u_eq, mj_up_eq, mj_up_ne, mk_lt, iI_n, Nat.add_zero]
      refine ⟨trivial, by omega, by omega⟩
/-- how long he would stay now -/
def mk_now (S : mk_S) (A : mk_L) (h t : Nat) : Nat := mk_by S A h t (S 65 (h * 6 + t)) (S 65 (36 + t))
def mk_once (S : mk_S) (A : mk_L) (h t : Nat) : Nat := mk_by S A h t (min (S 65 (h * 6 + t) + 1) 99) (S 65 (36 + t))
def mk_told (S : mk_S) (A : mk_L) (h t : Nat) : Nat := mk_by S A h t (nw_b (S 63 (3 * h)) t) (S 64 (3 * t + 1))
theorem mk_wn.knots {H T : Nat} {sn : Nat → Nat} (h : mk_wn H T sn) : ∀ t, t < T → sn (36 + t) ≤ 9 := h.2.2.2.2.2.2.2.2.2.1
theorem mk_wn.heard {H T : Nat} {sn : Nat → Nat} (h : mk_wn H T sn) : ∀ k, k < 36 → sn k ≤ 99 := h.2.2.2.2.2.2.2.2.2.2.1
theorem mk_xl.knots {T : Nat} {a kn he : Nat → Int32} {sn : Nat → Nat} (h : mk_xl T a kn he sn) : ∀ t, t < T → kn t = nI (sn (36 + t)) := h.2.2.2.2.2.2.2.1
theorem mk_xl.heard {T : Nat} {a kn he : Nat → Int32} {sn : Nat → Nat} (h : mk_xl T a kn he sn) : ∀ k, k < 36 → he k = nI (sn k) := h.2.2.2.2.2.2.2.2
theorem mk_Xnow (hN : 1000 ≤ N) (hw : mk_W S A) (hX : mk_X S A M) {h t : Nat} (hh : h < S 48 25) (ht : t < S 48 26) : ∃ M', F_Stays_now N (nI h) (nI t) M = some (nI (mk_now S A h t), M') ∧ ∀ c, c ≠ 9 → c ≠ 12 → M' c = M c := by
  have h6 := hw.h6
  have t6 := hw.t6
  obtain ⟨M', e, f⟩ := mk_Xby hN hw hX hh ht (hw.now.heard (h * 6 + t) (by omega)) (hw.now.knots t ht)
  refine ⟨M', ?_, f⟩
  unfold F_Stays_now
  rw [nl_6, pk_mul, nI_add, nw_ck (by omega) (by omega), nw_ck (by omega) (by omega), nI_clamp (by omega), nI_clamp (by omega), hX.now.heard _ (by omega), hX.now.knots t ht, e]
  rfl
theorem mk_Xonce (hN : 1000 ≤ N) (hw : mk_W S A) (hX : mk_X S A M) {h t : Nat} (hh : h < S 48 25) (ht : t < S 48 26) : ∃ M', F_Stays_onceMore N (nI h) (nI t) M = some (nI (mk_once S A h t), M') ∧ ∀ c, c ≠ 9 → c ≠ 12 → M' c = M c := by
  have h6 := hw.h6
  have t6 := hw.t6
  have h99 := hw.now.heard (h * 6 + t) (by omega)
  obtain ⟨M', e, f⟩ := mk_Xby hN hw hX hh ht (show min (S 65 (h * 6 + t) + 1) 99 ≤ 99 by omega) (hw.now.knots t ht)
  refine ⟨M', ?_, f⟩
  unfold F_Stays_onceMore F_Stand_heardOnceMore
  rw [nl_6, pk_mul, nI_add, nw_ck (by omega) (by omega), nI_clamp (by omega), hX.now.heard _ (by omega), nI_1, nl_99, nw_min (by omega) (by omega)]
  simp only [Option.bind_some]
  rw [nw_ck (by omega) (by omega), nI_clamp (by omega), hX.now.knots t ht, e]
  rfl
theorem mk_Xtold (hN : 1000 ≤ N) (hw : mk_W S A) (hX : mk_X S A M) {h t : Nat} (hh : h < S 48 25) (ht : t < S 48 26) : ∃ M', F_Stays_asTold N (nI h) (nI t) M = some (nI (mk_told S A h t), M') ∧ ∀ c, c ≠ 9 → c ≠ 12 → M' c = M c := by
  have h6 := hw.h6
  have t6 := hw.t6
  have hho := hw.house h hh
  have hta := hw.tale t ht
  have hb := nw_b2 (S 63 (3 * h)) t
  obtain ⟨M', e, f⟩ := mk_Xby hN hw hX hh ht (show nw_b (S 63 (3 * h)) t ≤ 99 by omega) hta.2.2.1
  refine ⟨M', ?_, f⟩
  unfold F_Stays_asTold F_Coast_knows F_Stays_asTold_b20
  rw [nw_ck (by omega) (by omega), nI_clamp (by omega), hX.known h hh, nl_1, show (31 : Int32) = nI 31 from rfl, nw_bit (by omega) (by omega)]
  rw [nl_0]; simp (disch := omega) only [nw_eq]
  by_cases c : nw_b (S 63 (3 * h)) t = 0
  · rw [if_pos c]
    simp only [Option.bind_some]
    rw [if_pos trivial, nw_ck (by omega) (by omega), nI_clamp (by omega), hX.kn t ht]
    rw [c] at e
    rw [e]
    show some (_, M') = some (_, M')
    unfold mk_told
    rw [c]
  · have c' : nw_b (S 63 (3 * h)) t = 1 := by omega
    rw [if_neg c]
    simp only [Option.bind_some]
    rw [if_neg (by decide +kernel), nw_ck (by omega) (by omega), nI_clamp (by omega), hX.kn t ht]
    rw [c'] at e
    rw [e]
    show some (_, M') = some (_, M')
    unfold mk_told
    rw [c']
theorem mk_Mheard (hw : mk_W S A) (hM : mk_M S A M) {h t : Nat} (hh : h < S 48 25) (ht : t < S 48 26) : F_M_heardOf (nI h) (nI t) M = some (nI (S 65 (h * 6 + t)), M) := by
  have h6 := hw.h6
  have t6 := hw.t6
  unfold F_M_heardOf
  rw [nl_0, nl_6, pk_mul, nI_add, nI_add, nw_ck (by omega) (by omega), nI_clamp (by omega), hM.now _ (by omega), show 0 + 6 * h + t = h * 6 + t by omega]
theorem mk_Mnow (hN : 1000 ≤ N) (hw : mk_W S A) (hM : mk_M S A M) {h t : Nat} (hh : h < S 48 25) (ht : t < S 48 26) : ∃ M', F_M_nightsNow N (nI h) (nI t) M = some (nI (mk_now S A h t), M') ∧ ∀ c, c ≠ 57 → c ≠ 58 → M' c = M c := by
  have h6 := hw.h6
  have t6 := hw.t6
  obtain ⟨M', e, f⟩ := mk_Mby hN hw hM hh ht (hw.now.heard (h * 6 + t) (by omega)) (hw.now.knots t ht)
  refine ⟨M', ?_, f⟩
  unfold F_M_nightsNow
  rw [nl_36, nI_add, nw_ck (by omega) (by omega), nI_clamp (by omega), mk_Mheard hw hM hh ht]
  simp only [Option.bind_some]
  rw [hM.now _ (by omega), e]
  rfl
end By
