/-! ===== the pure side: he tells ===== -/
def mk_ba (b n : Nat) : Nat := if n = 0 then b - 1 else min (b + n / 3) 999
def mk_lg (sn : Nat → Nat) (h t n : Nat) : Nat → Nat := fun k =>
  if k = 48 then min (sn 229 + 1) 60 else if k = 229 then sn 229 + 1
  else if k < 49 then sn k else if 229 < k then sn k
  else if sn 48 = 60 then (if k < 226 then sn (k + 3) else if k = 226 then h else if k = 227 then t else n)
  else if k = 49 + 3 * sn 48 then h else if k = 50 + 3 * sn 48 then t else if k = 51 + 3 * sn 48 then n else sn k
def mk_t5 (S : mk_S) (t n : Nat) : mk_S := mk_u (mk_u (mk_u (mk_u (mk_u S 65 (S 65 42 * 6 + t) (min (S 65 (S 65 42 * 6 + t) + 1) 99)) 65 45 (S 65 45 + max n 1)) 65 46 (S 65 46 + n)) 65 44 (mk_ba (S 65 44) n)) 65 47 (S 65 47 + if n = 0 then 1 else 0)
def mk_tell (S : mk_S) (t n : Nat) : mk_S := mk_sn (mk_t5 S t n) (mk_lg (mk_t5 S t n 65) (S 65 42) t n)
theorem mk_up_same {f : Nat → Nat} {k : Nat} : va_up f k (f k) = f := by
  funext j
  by_cases c : j = k
  · rw [c, mj_up_eq]
  · rw [mj_up_ne _ _ _ c]
theorem nw_max0 {b : Nat} (hb : b < 2 ^ 31) : mj_max (nI b - 1) 0 = nI (b - 1) ∧ mj_max 0 (nI b - 1) = nI (b - 1) := by
  cases b with
  | zero => exact ⟨by decide +kernel, by decide +kernel⟩
  | succ b =>
    rw [nI_pred, nl_0, nw_max (by omega) (by omega), nw_max (by omega) (by omega)]
    exact ⟨by congr 1 <;> omega, by congr 1 <;> omega⟩
section Tell
variable {N : Nat} {S : mk_S} {A : mk_L} {M : mj_M}
theorem mk_t5_o {t n c : Nat} (hc : c ≠ 65) : mk_t5 S t n c = S c := by unfold mk_t5; rw [mk_un1 hc, mk_un1 hc, mk_un1 hc, mk_un1 hc, mk_un1 hc]
theorem mk_t5_l {t n k : Nat} (h42 : S 65 42 < 6) (ht : t < 6) (hk : 48 ≤ k) : mk_t5 S t n 65 k = S 65 k := by
  unfold mk_t5
  simp only [mk_u5]
  rw [mj_up_ne _ _ _ (by omega), mj_up_ne _ _ _ (by omega), mj_up_ne _ _ _ (by omega), mj_up_ne _ _ _ (by omega), mj_up_ne _ _ _ (by omega)]
theorem mk_tell_o {t n c : Nat} (hc : c ≠ 65) : mk_tell S t n c = S c := by unfold mk_tell; rw [mk_snn hc, mk_t5_o hc]
theorem mk_tell5 {t n : Nat} : mk_tell S t n 65 = mk_lg (mk_t5 S t n 65) (S 65 42) t n := mk_sn5
theorem mk_lg_lo {sn : Nat → Nat} {h t n k : Nat} (hk : k < 48) : mk_lg sn h t n k = sn k := by
  unfold mk_lg
  rw [if_neg (by omega), if_neg (by omega), if_pos (by omega)]
theorem mk_Wtell (hw : mk_W S A) (hr : mk_R0 S) {t n : Nat} (h0 : 0 < S 48 25) (ht : t < S 48 26) (hn : n ≤ 20) (hd : S 65 45 + max n 1 ≤ 9999) : mk_W (mk_tell S t n) A := by
  have h6 := hw.h6
  have t6 := hw.t6
  have hsp := hw.now.spotH h0
  have hday := hw.now.day
  have hbr := hw.now.bread
  have h42 := hw.now.spot
  have h99 := hw.now.heard (S 65 42 * 6 + t) (by omega)
  have w5 : mk_wn (S 48 25) (S 48 26) (mk_t5 S t n 65) := by
    unfold mk_t5
    simp only [mk_u5]
    refine ((((hw.now.uh t6 h6 hsp ht (by omega)).u45 t6 hd ?_).u46 t6).u44 t6 ?_).u47 t6
    · rw [mj_up_ne _ _ _ (by omega)]; omega
    · unfold mk_ba; split <;> omega
  have e229 : mk_t5 S t n 65 229 = S 65 229 := mk_t5_l h42 (by omega) (by omega)
  have e45 : mk_t5 S t n 65 45 = S 65 45 + max n 1 := by
    unfold mk_t5
    simp only [mk_u5]
    rw [mj_up_ne _ _ _ (by omega), mj_up_ne _ _ _ (by omega), mj_up_ne _ _ _ (by omega), mj_up_eq]
  have l229 : mk_lg (mk_t5 S t n 65) (S 65 42) t n 229 = S 65 229 + 1 := by
    unfold mk_lg
    rw [if_neg (by omega), if_pos rfl, e229]
  have l48 : mk_lg (mk_t5 S t n 65) (S 65 42) t n 48 = min (S 65 229 + 1) 60 := by
    unfold mk_lg
    rw [if_pos rfl, e229]
  have e48 : mk_t5 S t n 65 48 = S 65 48 := mk_t5_l h42 (by omega) (by omega)
  have hlog := hw.now.log
  have wl : mk_wn (S 48 25) (S 48 26) (mk_lg (mk_t5 S t n 65) (S 65 42) t n) := by
    obtain ⟨h1, h2, h3, h4, h5, h6', h7, h8, h9, h10, h11, h12, h13⟩ := w5
    unfold mk_wn
    rw [l229, l48]
    simp (disch := omega) only [mk_lg_lo]
    refine ⟨h1, h2, h3, h4, h5, h6', h7, by rw [e45]; omega, trivial, fun j hj => by rw [mk_lg_lo (by omega)]; exact h10 j hj, fun j hj => by rw [mk_lg_lo (by omega)]; exact h11 j hj, fun a b ha hb hc => by rw [mk_lg_lo (by omega)]; exact h12 a b ha hb hc, fun i hi => ?_⟩
    unfold mk_lg
    rw [e48]
    by_cases c : S 65 48 = 60
    · simp only [if_pos c]
      by_cases d : i < 59
      · rw [if_neg (by omega), if_neg (by omega), if_neg (by omega), if_neg (by omega), if_pos (by omega), if_neg (by omega), if_neg (by omega), if_neg (by omega), if_neg (by omega), if_pos (by omega), if_neg (by omega), if_neg (by omega), if_neg (by omega), if_neg (by omega), if_pos (by omega)]
        have := h13 (i + 1) (by rw [e48]; omega)
        rw [show 49 + 3 * (i + 1) = 49 + 3 * i + 3 by omega, show 50 + 3 * (i + 1) = 50 + 3 * i + 3 by omega, show 51 + 3 * (i + 1) = 51 + 3 * i + 3 by omega] at this
        exact this
      · have : i = 59 := by omega
        subst this
        exact ⟨h42, by show t < 6; omega, hn⟩
    · simp only [if_neg c]
      by_cases d : i < S 65 48
      · rw [if_neg (by omega), if_neg (by omega), if_neg (by omega), if_neg (by omega), if_neg (by omega), if_neg (by omega), if_neg (by omega), if_neg (by omega), if_neg (by omega), if_neg (by omega), if_neg (by omega), if_neg (by omega), if_neg (by omega), if_neg (by omega), if_neg (by omega), if_neg (by omega), if_neg (by omega), if_neg (by omega), if_neg (by omega), if_neg (by omega), if_neg (by omega)]
        exact h13 i (by rw [e48]; exact d)
      · have : i = S 65 48 := by omega
        subst this
        rw [if_neg (by omega), if_neg (by omega), if_neg (by omega), if_neg (by omega), if_pos rfl, if_neg (by omega), if_neg (by omega), if_neg (by omega), if_neg (by omega), if_neg (by omega), if_pos rfl, if_neg (by omega), if_neg (by omega), if_neg (by omega), if_neg (by omega), if_neg (by omega), if_neg (by omega), if_pos rfl]
        exact ⟨h42, by omega, hn⟩
  unfold mk_W
  simp (disch := omega) only [mk_tell_o, mk_tell5, l229]
  refine ⟨hw.h6, hw.t6, hw.ht, hw.size, hw.byte, hw.laws, hw.hold, hw.why, hw.kept, hw.sights, hw.img, hw.next, hw.often, hw.house, hw.tale, wl, fun j hj => ?_, hw.kh, hw.image, hw.seen, hw.wl, hw.chain⟩
  have h1 := hw.rows j hj
  have h2 := hr j hj
  exact ⟨h1.1, by omega, by omega⟩
theorem mk_Xtell (hw : mk_W S A) (hX : mk_X S A M) (hr : mk_R0 S) {t n : Nat} (h0 : 0 < S 48 25) (ht : t < S 48 26) (hn : n ≤ 20) : ∃ M', F_Stand_tellHere (nI t) (nI n) M = some M' ∧ mk_X (mk_tell S t n) A M' ∧ mk_fx M M' := by
  have h6 := hw.h6
  have t6 := hw.t6
  have hsp := hw.now.spotH h0
  have hday := hw.now.day
  have hbr := hw.now.bread
  have h42 := hw.now.spot
  have h99 := hw.now.heard (S 65 42 * 6 + t) (by omega)
  have hlog := hw.now.log
  obtain ⟨N1, N2, N3, N4, N5, N6, N7, N8, N9⟩ := hX.now
  -- the five numbers first
  have five : ∀ M5, mk_X (mk_t5 S t n) A M5 → mk_fx M M5 → ∃ M', F_Stand_tellHere_b74 (nI t) (nI n) M5 = some M' ∧ mk_X (mk_tell S t n) A M' ∧ mk_fx M M' := by
    intro M5 x5 f5
    have e229 : mk_t5 S t n 65 229 = S 65 229 := mk_t5_l h42 (by omega) (by omega)
    have e48 : mk_t5 S t n 65 48 = S 65 48 := mk_t5_l h42 (by omega) (by omega)
    have e42 : mk_t5 S t n 65 42 = S 65 42 := by
      unfold mk_t5
      simp only [mk_u5]
      rw [mj_up_ne _ _ _ (by omega), mj_up_ne _ _ _ (by omega), mj_up_ne _ _ _ (by omega), mj_up_ne _ _ _ (by omega), mj_up_ne _ _ _ (by omega)]
    have l229 : mk_lg (mk_t5 S t n 65) (S 65 42) t n 229 = S 65 229 + 1 := by
      unfold mk_lg
      rw [if_neg (by omega), if_pos rfl, e229]
    have l48 : mk_lg (mk_t5 S t n 65) (S 65 42) t n 48 = min (S 65 229 + 1) 60 := by
      unfold mk_lg
      rw [if_pos rfl, e229]
    have hring := x5.ring
    have hnow := x5.now
    have hm : S 65 229 % 100 < 100 := Nat.mod_lt _ (by omega)
    unfold F_Stand_tellHere_b74
    rw [hnow.2.2.2.2.2.2.1, e229, nl_100, pk_rem (by omega) (by omega) (by omega), nw_ck hm (by omega), nI_clamp (by omega), hnow.1, e42, show (1000 : Int32) = nI 1000 from rfl, pk_mul, pk_mul, nI_add, nI_add]
    simp only [mj_lt]
    rw [nw_u9 (c' := 20) _ (by omega), hnow.2.2.2.2.2.2.1, e229, nI_1]
    refine ⟨_, rfl, ?_, (f5.u (by omega)).u (by omega)⟩
    have hc : mk_X (mk_tell S t n) A M5 = mk_X (mk_tell S t n) A M5 := rfl
    unfold mk_X
    simp (disch := omega) only [nw_u9, mj_u_eq, mk_tell_o, mk_tell5]
    have x5' := x5
    unfold mk_X at x5'
    simp (disch := omega) only [mk_t5_o] at x5'
    have y : mk_X (mk_sn S (mk_t5 S t n 65)) A M5 := by
      unfold mk_X
      simp (disch := omega) only [mk_snn, mk_sn5]
      exact x5'
    have y' := y
    unfold mk_X at y'
    simp (disch := omega) only [mk_snn, mk_sn5] at y'
    obtain ⟨q1, q2, q3, q4, q5, q6, q7, q8, q9, q10, q11, q12, q13, q14, q15, q16, q17, q18, q19, q20, q21, q22, q23, q24, q25⟩ := y'
    refine ⟨q1, q2, q3, q4, q5, q6, q7, q8, q9, q10, q11, q12, q13, q14, q15, q16, q17, ?_, ?_, q20, q21, q22, fun j hj => ?_, q24, q25⟩
    · obtain ⟨n1, n2, n3, n4, n5, n6, n7, n8, n9⟩ := hnow
      rw [mk_t5_o (by omega)] at n8
      unfold mk_xl
      rw [l229]
      simp (disch := omega) only [mj_up_eq, mj_up_ne, mk_lg_lo]
      exact ⟨n1, n2, n3, n4, n5, n6, trivial, fun j hj => by rw [mk_lg_lo (by omega)]; exact n8 j hj, fun j hj => by rw [mk_lg_lo (by omega)]; exact n9 j hj⟩
    · intro i hi
      rw [l48] at hi
      rw [l48, l229]
      by_cases c0 : i = 0
      · subst c0
        rw [show S 65 229 + 1 - 1 - 0 = S 65 229 by omega, mj_up_eq]
        unfold mk_lg
        rw [e48]
        by_cases c : S 65 48 = 60
        · simp only [if_pos c]
          rw [show min (S 65 229 + 1) 60 - 1 - 0 = 59 by omega]
          congr 1
          show S 65 42 * 1000 + t * 100 + n = 1000 * S 65 42 + 100 * t + n
          omega
        · simp only [if_neg c]
          rw [show min (S 65 229 + 1) 60 - 1 - 0 = S 65 48 by omega]
          rw [if_neg (by omega), if_neg (by omega), if_neg (by omega), if_neg (by omega), if_pos rfl, if_neg (by omega), if_neg (by omega), if_neg (by omega), if_neg (by omega), if_neg (by omega), if_pos rfl, if_neg (by omega), if_neg (by omega), if_neg (by omega), if_neg (by omega), if_neg (by omega), if_neg (by omega), if_pos rfl]
          congr 1
          omega
      · rw [show S 65 229 + 1 - 1 - i = S 65 229 - 1 - (i - 1) by omega, mj_up_ne _ _ _ (by omega)]
        have h1 := hring (i - 1) (by rw [e48]; omega)
        rw [e229, e48] at h1
        rw [h1]
        congr 1
        unfold mk_lg
        rw [e48]
        by_cases c : S 65 48 = 60
        · simp only [if_pos c]
          rw [if_neg (by omega), if_neg (by omega), if_neg (by omega), if_neg (by omega), if_pos (by omega), if_neg (by omega), if_neg (by omega), if_neg (by omega), if_neg (by omega), if_pos (by omega), if_neg (by omega), if_neg (by omega), if_neg (by omega), if_neg (by omega), if_pos (by omega)]
          rw [show 49 + 3 * (min (S 65 229 + 1) 60 - 1 - i) + 3 = 49 + 3 * (S 65 48 - 1 - (i - 1)) by omega, show 50 + 3 * (min (S 65 229 + 1) 60 - 1 - i) + 3 = 50 + 3 * (S 65 48 - 1 - (i - 1)) by omega, show 51 + 3 * (min (S 65 229 + 1) 60 - 1 - i) + 3 = 51 + 3 * (S 65 48 - 1 - (i - 1)) by omega]
        · simp only [if_neg c]
          rw [show min (S 65 229 + 1) 60 - 1 - i = S 65 48 - 1 - (i - 1) by omega]
          rw [if_neg (by omega), if_neg (by omega), if_neg (by omega), if_neg (by omega), if_neg (by omega), if_neg (by omega), if_neg (by omega), if_neg (by omega), if_neg (by omega), if_neg (by omega), if_neg (by omega), if_neg (by omega), if_neg (by omega), if_neg (by omega), if_neg (by omega), if_neg (by omega), if_neg (by omega), if_neg (by omega), if_neg (by omega), if_neg (by omega), if_neg (by omega)]
    · refine ⟨(q23 j hj).1, fun i hi => ?_⟩
      have hwr := hw.rows j hj
      have hr0 := hr j hj
      have hl := hwr.1.log
      have hk := hw.kept
      rw [mj_up_ne _ _ _ (by omega)]
      exact (q23 j hj).2 i hi
  unfold F_Stand_tellHere F_Stand_heardOnceMore F_Stand_daysOf F_Stand_breadAfter
  simp only [mj_lt]
  rw [N1, nl_6, pk_mul, nI_add, nw_ck (by omega) (by omega), nI_clamp (by omega), N9 _ (by omega)]
  simp only [Option.bind_some]
  rw [nw_ck (by omega) (by omega)]
  simp (disch := omega) only [nw_u9, mj_u_eq, mj_up_ne, mj_up_eq]
  rw [nI_1, nl_99, nw_min (by omega) (by omega), N4, nl_1, nw_max (by omega) (by omega), nI_add, N3, show mj_max (nI (S 65 44) - nI 1) 0 = nI (S 65 44 - 1) from (nw_max0 (b := S 65 44) (by omega)).1, nl_3, pk_div (by omega) (by omega) (by omega), nI_add, nl_999, nw_min (by omega) (by omega)]
  have t6' : ∀ a b c d, mk_u (mk_u (mk_u S 65 a b) 65 c d) 65 45 0 48 26 = S 48 26 := fun a b c d => by rw [mk_un1 (by omega), mk_un1 (by omega), mk_un1 (by omega)]
  have xa := hX.nh (k := S 65 42 * 6 + t) (v := min (S 65 (S 65 42 * 6 + t) + 1) 99) (by omega)
  have xb := xa.n45 (v := S 65 45 + max n 1) (by rw [mk_un1 (by omega)]; exact t6)
  have xc := xb.n44 (v := mk_ba (S 65 44) n) (by rw [mk_un1 (by omega), mk_un1 (by omega)]; exact t6)
  have xd := xc.n46 (v := S 65 46 + n) (by rw [mk_un1 (by omega), mk_un1 (by omega), mk_un1 (by omega)]; exact t6)
  have fd : mk_fx M (mj_u (mj_u (mj_u (mj_u M 22 (S 65 42 * 6 + t) (nI (min (S 65 (S 65 42 * 6 + t) + 1) 99))) 20 3 (nI (S 65 45 + max n 1))) 20 2 (nI (mk_ba (S 65 44) n))) 20 4 (nI (S 65 46 + n))) := (((mk_fx.rf.u (by omega)).u (by omega)).u (by omega)).u (by omega)
  by_cases c : n = 0
  · rw [c, if_pos (show nI 0 = (0 : Int32) from rfl)]
    simp only [Option.bind_some]
    rw [if_pos (show nI 0 = (0 : Int32) from rfl)]
    simp (disch := omega) only [nw_u9, mj_u_eq, mj_up_ne, mj_up_eq]
    rw [N5, N6, nI_add, nI_add]
    rw [c] at xd fd five
    have xe := xd.n47 (v := S 65 47 + 1) (by rw [mk_un1 (by omega), mk_un1 (by omega), mk_un1 (by omega), mk_un1 (by omega)]; exact t6)
    refine five _ ?_ ((fd.u (c := 20) (k := 5) (v := nI (S 65 47 + 1)) (by omega)))
    unfold mk_t5
    rw [if_pos rfl, mk_u_comm (a := 46) (b := 44) (by omega)]
    exact xe
  · rw [if_neg (show ¬ nI n = (0 : Int32) from nI_ne0 (by omega) (by omega))]
    simp only [Option.bind_some]
    rw [if_neg (show ¬ nI n = (0 : Int32) from nI_ne0 (by omega) (by omega))]
    simp (disch := omega) only [nw_u9, mj_u_eq, mj_up_ne, mj_up_eq]
    rw [N5, nI_add]
    have eb : mk_ba (S 65 44) n = min (S 65 44 + n / 3) 999 := if_neg c
    rw [eb] at xd fd
    refine five _ ?_ fd
    unfold mk_t5
    rw [if_neg c, mk_u_comm (a := 46) (b := 44) (by omega), eb]
    have e47 : ∀ Z : mk_S, Z 65 47 = S 65 47 → mk_u Z 65 47 (S 65 47 + 0) = Z := by
      intro Z hz
      funext d
      by_cases e : d = 65
      · rw [e, mk_u5, Nat.add_zero, ← hz, mk_up_same]
      · rw [mk_un1 e]
    rw [e47 _ (by simp only [mk_u5]; rw [mj_up_ne _ _ _ (by omega), mj_up_ne _ _ _ (by omega), mj_up_ne _ _ _ (by omega), mj_up_ne _ _ _ (by omega)])]
    exact xd
end Tell
