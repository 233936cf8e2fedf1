/-! ===== the pure side: small helpers of both sides ===== -/
def mk_u (S : mk_S) (c k v : Nat) : mk_S := fun d => if d = c then va_up (S c) k v else S d
theorem mk_un1 {S : mk_S} {c d k v : Nat} (h : d ≠ c) : mk_u S c k v d = S d := if_neg h
theorem mk_u_eq {S : mk_S} {c k v : Nat} : mk_u S c k v c = va_up (S c) k v := if_pos rfl
theorem mk_ix (a : Int32) {n : Nat} (h : n < 2 ^ 31) : (a < 0 ∨ nI n ≤ a) ∨ ∃ j, j < n ∧ a = nI j := by
  rcases pk_ix a h with h | h | h
  · exact Or.inl (Or.inl h)
  · exact Or.inl (Or.inr h)
  · exact Or.inr h
theorem nw_pl {a : Int32} {n : Nat} (h : nI n ≤ a) (hn : n < 2 ^ 31) : nI n - 1 < a := by
  have h1 := Int32.le_iff_toInt_le.mp h
  rw [nI_toInt hn] at h1
  apply Int32.lt_iff_toInt_lt.mpr
  cases n with
  | zero => rw [show (nI 0 - 1).toInt = -1 by decide +kernel]; omega
  | succ n => rw [nI_pred, nI_toInt (by omega)]; omega
section Parts
variable {N : Nat} {S : mk_S} {A : mk_L} {M : mj_M}
theorem mk_Xh0 (hX : mk_X S A M) {a : Int32} (h : a < 0 ∨ nI (S 48 25) ≤ a) : F_Coast_hasHouse a M = some (0, M) := by
  unfold F_Coast_hasHouse
  by_cases c : a < 0
  · rw [if_pos c]
  · rw [if_neg c, hX.hs, if_pos (h.resolve_left c)]
theorem mk_Xh1 (hX : mk_X S A M) (hw : mk_W S A) {j : Nat} (h : j < S 48 25) : F_Coast_hasHouse (nI j) M = some (1, M) := by
  have := hw.h6
  unfold F_Coast_hasHouse
  rw [if_neg (nI_pos (by omega)), hX.hs, if_neg (nI_ge h (by omega))]
theorem mk_Xt0 (hX : mk_X S A M) {a : Int32} (h : a < 0 ∨ nI (S 48 26) ≤ a) : F_Coast_hasTale a M = some (0, M) := by
  unfold F_Coast_hasTale
  by_cases c : a < 0
  · rw [if_pos c]
  · rw [if_neg c, hX.ts, if_pos (h.resolve_left c)]
theorem mk_Xt1 (hX : mk_X S A M) (hw : mk_W S A) {j : Nat} (h : j < S 48 26) : F_Coast_hasTale (nI j) M = some (1, M) := by
  have := hw.t6
  unfold F_Coast_hasTale
  rw [if_neg (nI_pos (by omega)), hX.ts, if_neg (nI_ge h (by omega))]
theorem mk_Xb1 (hX : mk_X S A M) (hw : mk_W S A) {j i : Nat} (h : j < S 48 25) (k : i < S 48 26) : F_Coast_hasBoth (nI j) (nI i) M = some (1, M) := by
  unfold F_Coast_hasBoth
  rw [mk_Xh1 hX hw h]
  simp only [Option.bind_some]
  rw [if_neg (by decide +kernel), mk_Xt1 hX hw k]
  simp only [Option.bind_some]
  rw [if_neg (by decide +kernel)]
theorem mk_Xb0 (hX : mk_X S A M) (hw : mk_W S A) {a b : Int32} (h : (a < 0 ∨ nI (S 48 25) ≤ a) ∨ (b < 0 ∨ nI (S 48 26) ≤ b)) : F_Coast_hasBoth a b M = some (0, M) := by
  unfold F_Coast_hasBoth
  rcases mk_ix a (n := S 48 25) (by have := hw.h6; omega) with c | ⟨j, hj, rfl⟩
  · rw [mk_Xh0 hX c]
    rfl
  · rw [mk_Xh1 hX hw hj]
    have hh := hw.h6
    simp only [Option.bind_some]
    rw [if_neg (by decide +kernel), mk_Xt0 hX (h.resolve_left (by
      rintro (k | k)
      · exact nI_pos (by omega) k
      · exact nI_ge hj (by omega) k))]
    rfl
theorem mk_Xtold1 (hX : mk_X S A M) (hw : mk_W S A) (h : 0 < S 48 25) : F_Coast_isTold M = some (1, M) := by
  have := hw.h6
  unfold F_Coast_isTold
  rw [hX.hs, if_neg (nI_nle h (by omega))]
theorem mk_Xtold0 (hX : mk_X S A M) (h : S 48 25 = 0) : F_Coast_isTold M = some (0, M) := by
  unfold F_Coast_isTold
  rw [hX.hs, h, if_pos (by decide +kernel)]
theorem mk_Mh0 (hM : mk_M S A M) (hw : mk_W S A) {a : Int32} (h : a < 0 ∨ nI (S 48 25) ≤ a) : F_M_isHouse a M = some (0, M) := by
  have := hw.h6
  unfold F_M_isHouse F_M_in
  by_cases c : a < 0
  · rw [if_pos c]; rfl
  · rw [if_neg c, hM.hs, if_pos (nw_pl (h.resolve_left c) (by omega))]; rfl
theorem mk_Mh1 (hM : mk_M S A M) (hw : mk_W S A) {j : Nat} (h : j < S 48 25) : F_M_isHouse (nI j) M = some (1, M) := by
  have := hw.h6
  unfold F_M_isHouse F_M_in
  rw [if_neg (nI_pos (by omega)), hM.hs, nl_1, pk_sub (by omega), if_neg (nI_nlt (by omega) (by omega))]
  rfl
theorem mk_Mt0 (hM : mk_M S A M) (hw : mk_W S A) {a : Int32} (h : a < 0 ∨ nI (S 48 26) ≤ a) : F_M_isTale a M = some (0, M) := by
  have := hw.t6
  unfold F_M_isTale F_M_in
  by_cases c : a < 0
  · rw [if_pos c]; rfl
  · rw [if_neg c, hM.ts, if_pos (nw_pl (h.resolve_left c) (by omega))]; rfl
theorem mk_Mt1 (hM : mk_M S A M) (hw : mk_W S A) {j : Nat} (h : j < S 48 26) : F_M_isTale (nI j) M = some (1, M) := by
  have := hw.t6
  unfold F_M_isTale F_M_in
  rw [if_neg (nI_pos (by omega)), hM.ts, nl_1, pk_sub (by omega), if_neg (nI_nlt (by omega) (by omega))]
  rfl
/-- in: an argument between two bounds -/
theorem mk_Min (a lo hi : Int32) (M : mj_M) : F_M_in a lo hi M = some (if a < lo ∨ hi < a then 0 else 1, M) := by
  unfold F_M_in
  by_cases c : a < lo
  · rw [if_pos c, if_pos (Or.inl c)]
  · rw [if_neg c]
    by_cases d : hi < a
    · rw [if_pos d, if_pos (Or.inr d)]
    · rw [if_neg d, if_neg (by rintro (h | h) <;> contradiction)]
theorem mk_wn.own {H T : Nat} {sn : Nat → Nat} (h : mk_wn H T sn) (ht : T ≤ 6) : sn 43 < 64 := by
  have h1 := h.2.2.1
  have : 2 ^ T ≤ 2 ^ 6 := Nat.pow_le_pow_right (by omega) ht
  omega
theorem mk_Xowns (hX : mk_X S A M) (hw : mk_W S A) {t : Nat} (ht : t < 6) : F_Stand_owns (nI t) M = some (nI (nw_b (S 65 43) t), M) := by
  have h1 := hw.now.own hw.t6
  have h2 := nw_b2 (S 65 43) t
  unfold F_Stand_owns
  rw [hX.now.2.1, nl_1, nl_31, nw_bit (by omega) (by omega)]
  simp (disch := omega) only [nl_0, nw_eq]
  split
  · rename_i c; rw [c]
  · rw [show nw_b (S 65 43) t = 1 by omega]
theorem mk_Mhas {o t : Nat} (ho : o < 2 ^ 31) (ht : t < 32) : F_M_has (nI o) (nI t) M = some (nI (nw_b o t), M) := by
  have h2 := nw_b2 o t
  unfold F_M_has
  rw [nl_1, nl_31, nw_bit ho ht]
  simp (disch := omega) only [nl_0, nw_eq]
  split
  · rename_i c; rw [c]
  · rw [show nw_b o t = 0 by omega]
theorem mk_Mowns (hM : mk_M S A M) (hw : mk_W S A) {t : Nat} (ht : t < 6) : F_M_owns (nI t) M = some (nI (nw_b (S 65 43) t), M) := by
  have h1 := hw.now.own hw.t6
  unfold F_M_owns
  rw [hM.now 43 (by omega), mk_Mhas (by omega) (by omega)]
  rfl
theorem mk_Xfar (hX : mk_X S A M) (hw : mk_W S A) {h : Nat} (hh : h < 6) : F_Stand_farTo (nI h) M = some (nI (nw_d h (S 65 42)), M) := by
  have := hw.now.2.1
  unfold F_Stand_farTo
  rw [hX.now.1, nw_abs (by omega) (by omega)]
theorem mk_Mfar (hM : mk_M S A M) (hw : mk_W S A) {h : Nat} (hh : h < 6) : F_M_farTo (nI h) M = some (nI (nw_d h (S 65 42)), M) := by
  have := hw.now.2.1
  unfold F_M_farTo
  rw [hM.now 42 (by omega), nw_abs (by omega) (by omega)]
/-- which tales a house knows -/
def mk_hb (sn : Nat → Nat) (h : Nat) : Nat → Nat
  | 0 => 0
  | t + 1 => if sn (h * 6 + t) = 0 then mk_hb sn h t else mk_hb sn h t ||| 2 ^ t
theorem mk_or6 {a t : Nat} (ha : a < 64) (ht : t < 6) : a ||| 2 ^ t < 64 := by
  have : 2 ^ t < 2 ^ 6 := Nat.pow_lt_pow_right (by omega) ht
  exact Nat.or_lt_two_pow (n := 6) ha this
theorem mk_hb64 (sn : Nat → Nat) (h : Nat) : ∀ n, n ≤ 6 → mk_hb sn h n < 64
  | 0, _ => by simp [mk_hb]
  | n + 1, hn => by
    have := mk_hb64 sn h n (by omega)
    unfold mk_hb
    split
    · exact this
    · exact mk_or6 this (by omega)
theorem mk_hb6 {H T : Nat} {sn : Nat → Nat} (hw : mk_wn H T sn) {h : Nat} (hh : h < 6) : ∀ d, T + d ≤ 6 → mk_hb sn h (T + d) = mk_hb sn h T
  | 0, _ => rfl
  | d + 1, hd => by
    rw [← Nat.add_assoc, mk_hb, if_pos (hw.2.2.2.2.2.2.2.2.2.2.2.1 h (T + d) hh (by omega) (Or.inr (by omega))), mk_hb6 hw hh d (by omega)]
theorem mk_Xhb (hX : mk_X S A M) (hw : mk_W S A) (hN : 10 ≤ N) {h : Nat} (hh : h < 6) : F_Stand_heardBits N (nI h) M = some (nI (mk_hb (S 65) h 6), M) := by
  have key : ∀ d i n, i + d = 6 → d < n → F_Stand_heardBits_b4 N n (nI h) (nI (mk_hb (S 65) h i)) (nI i) M = some (nI (mk_hb (S 65) h 6), M) := by
    intro d
    induction d with
    | zero =>
      intro i n hi hn
      obtain ⟨n, rfl⟩ : ∃ k, n = k + 1 := ⟨n - 1, by omega⟩
      rw [F_Stand_heardBits_b4]
      have : i = 6 := by omega
      subst this
      rw [if_pos (by decide +kernel)]
    | succ d ih =>
      intro i n hi hn
      obtain ⟨n, rfl⟩ : ∃ k, n = k + 1 := ⟨n - 1, by omega⟩
      have h99 := hw.now.heard (h * 6 + i) (by omega)
      rw [F_Stand_heardBits_b4]
      simp (disch := omega) only [nl_0, nl_1, nl_2, nl_3, nl_4, nl_5, nl_6, nl_7, nl_8, nl_9, nl_10, nl_11, nl_12, nl_13, nl_14, nl_20, nl_24, nl_31, nl_32, nl_33, nl_36, nl_38, nl_39, nl_40, nl_41, nl_42, nl_43, nl_44, nl_45, nl_46, nl_47, nl_48, nl_49, nl_50, nl_52, nl_57, nl_58, nl_59, nl_60, nl_61, nl_62, nl_63, nl_91, nl_93, nl_97, nl_98, nl_99, nl_100, nl_104, nl_107, nl_108, nl_109, nl_110, nl_111, nl_114, nl_115, nl_116, nl_119, nl_121, nl_124, nl_127, nl_140, nl_229, nl_240, nl_255, nl_520, nl_999, nl_1000, nl_9999, nI_add, pk_mul, nw_ck, nI_clamp, nw_le, nw_lt, nw_eq, nw_eqm, nw_meq, nw_ltm, nw_mlt, nw_mle, nw_lem, Option.bind_some, mj_lt]
      rw [if_neg (by omega), hX.now.heard _ (by omega), nw_shl (by omega), nw_or]
      simp (disch := omega) only [nw_le]
      have := ih (i + 1) n (by omega) (by omega)
      rw [mk_hb] at this
      by_cases c : S 65 (h * 6 + i) = 0
      · rw [if_pos c] at this
        rw [if_pos (by omega), this]
      · rw [if_neg c] at this
        rw [if_neg (by omega), this]
  unfold F_Stand_heardBits
  exact key 6 0 N (by omega) (by omega)
theorem mk_Mhb (hM : mk_M S A M) (hw : mk_W S A) (hN : 10 ≤ N) {h : Nat} (hh : h < S 48 25) : F_M_heardSet N (nI h) M = some (nI (mk_hb (S 65) h 6), M) := by
  have h6 := hw.h6
  have t6 := hw.t6
  have e6 : mk_hb (S 65) h 6 = mk_hb (S 65) h (S 48 26) := by
    have := mk_hb6 hw.now (show h < 6 by omega) (6 - S 48 26) (by omega)
    rw [show S 48 26 + (6 - S 48 26) = 6 by omega] at this
    exact this
  rw [e6]
  have key : ∀ d i n, i + d = S 48 26 → d < n → F_M_heardSet_b4 N n (nI h) (nI (mk_hb (S 65) h i)) (nI i) M = some (nI (mk_hb (S 65) h (S 48 26)), M) := by
    intro d
    induction d with
    | zero =>
      intro i n hi hn
      obtain ⟨n, rfl⟩ : ∃ k, n = k + 1 := ⟨n - 1, by omega⟩
      rw [F_M_heardSet_b4]
      have : i = S 48 26 := by omega
      subst this
      rw [hM.ts, if_pos (Int32.le_refl _)]
    | succ d ih =>
      intro i n hi hn
      obtain ⟨n, rfl⟩ : ∃ k, n = k + 1 := ⟨n - 1, by omega⟩
      have h99 := hw.now.heard (h * 6 + i) (by omega)
      rw [F_M_heardSet_b4, hM.ts, mk_Mheard hw hM hh (by omega)]
      simp (disch := omega) only [nl_0, nl_1, nl_2, nl_3, nl_4, nl_5, nl_6, nl_7, nl_8, nl_9, nl_10, nl_11, nl_12, nl_13, nl_14, nl_20, nl_24, nl_31, nl_32, nl_33, nl_36, nl_38, nl_39, nl_40, nl_41, nl_42, nl_43, nl_44, nl_45, nl_46, nl_47, nl_48, nl_49, nl_50, nl_52, nl_57, nl_58, nl_59, nl_60, nl_61, nl_62, nl_63, nl_91, nl_93, nl_97, nl_98, nl_99, nl_100, nl_104, nl_107, nl_108, nl_109, nl_110, nl_111, nl_114, nl_115, nl_116, nl_119, nl_121, nl_124, nl_127, nl_140, nl_229, nl_240, nl_255, nl_520, nl_999, nl_1000, nl_9999, nI_add, pk_mul, nw_ck, nI_clamp, nw_le, nw_lt, nw_eq, nw_eqm, nw_meq, nw_ltm, nw_mlt, nw_mle, nw_lem, Option.bind_some, mj_lt]
      rw [if_neg (by omega), nw_shl (by omega), nw_or, nw_or, Nat.or_zero]
      have := ih (i + 1) n (by omega) (by omega)
      rw [mk_hb] at this
      by_cases c : S 65 (h * 6 + i) = 0
      · rw [if_pos c] at this
        rw [if_pos (by omega), this]
      · rw [if_neg c] at this
        rw [if_neg (by omega), this]
  unfold F_M_heardSet
  exact key (S 48 26) 0 N (by omega) (by omega)
end Parts
