/-! ===== the pure side: both coast readers: items ===== -/
def mk_tle (i : Nat) : Nat := ([98, 109, 97, 111, 107, 99, 119, 108, 107, 114] : List Nat).getD i 0
def mk_tlo (i : Nat) : Nat := ([0, 0, 0, 0, 0, 0, 0, 1, 0, 0] : List Nat).getD i 0
def mk_thi (i : Nat) : Nat := ([99, 63, 5, 9, 63, 9, 9, 9, 9, 1] : List Nat).getD i 0
def mk_tus (i : Nat) : Nat := ([20, 63, 0, 1, 0, 3, 2, 4, 2, 0] : List Nat).getD i 0
theorem mk_tle_x : ∀ i, i < 10 → ([98, 109, 97, 111, 107, 99, 119, 108, 107, 114] : List Int32).getD i 0 = nI (mk_tle i) := by decide +kernel
theorem mk_tlo_x : ∀ i, i < 10 → ([0, 0, 0, 0, 0, 0, 0, 1, 0, 0] : List Int32).getD i 0 = nI (mk_tlo i) := by decide +kernel
theorem mk_thi_x : ∀ i, i < 10 → ([99, 63, 5, 9, 63, 9, 9, 9, 9, 1] : List Int32).getD i 0 = nI (mk_thi i) := by decide +kernel
theorem mk_tus_x : ∀ i, i < 10 → ([20, 63, 0, 1, 0, 3, 2, 4, 2, 0] : List Int32).getD i 0 = nI (mk_tus i) := by decide +kernel
theorem mk_t99 : ∀ i, i < 10 → mk_tlo i ≤ 99 ∧ mk_thi i ≤ 99 ∧ mk_tlo i ≤ mk_tus i ∧ mk_tus i ≤ mk_thi i ∧ 0 < mk_tle i ∧ mk_tle i < 256 := by decide +kernel
/-- which item of a clause a sign begins; 9: none -/
def mk_kk (f m c : Nat) : Nat := if mk_tle f = c then 0 else if mk_tle (f + 1) = c then 1 else if mk_tle (f + 2) = c then 2 else if m = 4 ∧ mk_tle (f + 3) = c then 3 else 9
theorem mk_kk9 {f m c : Nat} (hm : m = 3 ∨ m = 4) (h : mk_kk f m c < 9) : mk_kk f m c < m ∧ mk_tle (f + mk_kk f m c) = c := by
  unfold mk_kk at h ⊢
  by_cases h0 : mk_tle f = c
  · rw [if_pos h0]; exact ⟨by omega, h0⟩
  rw [if_neg h0] at h ⊢
  by_cases h1 : mk_tle (f + 1) = c
  · rw [if_pos h1]; exact ⟨by omega, h1⟩
  rw [if_neg h1] at h ⊢
  by_cases h2 : mk_tle (f + 2) = c
  · rw [if_pos h2]; exact ⟨by omega, h2⟩
  rw [if_neg h2] at h ⊢
  by_cases h3 : m = 4 ∧ mk_tle (f + 3) = c
  · rw [if_pos h3]; exact ⟨by omega, h3.2⟩
  rw [if_neg h3] at h
  omega
def mk_uc (U : Nat) : Nat := nw_b U 0 + nw_b U 1 + nw_b U 2 + nw_b U 3
theorem mk_ub : ∀ U, U < 16 → ∀ k, k < 4 → nw_b U k = 0 → U ||| 2 ^ k < 16 ∧ mk_uc (U ||| 2 ^ k) = mk_uc U + 1 := by decide +kernel
theorem mk_ub8 : ∀ U, U < 8 → ∀ k, k < 3 → U ||| 2 ^ k < 8 := by decide +kernel
theorem mk_us : ∀ f, f < 8 → ∀ U, U < 16 → ∀ k, k < 4 → nw_b (U * 2 ^ f) (f + k) = nw_b U k ∧ (U * 2 ^ f ||| 2 ^ (f + k)) = (U ||| 2 ^ k) * 2 ^ f ∧ U * 2 ^ f < 2048 := by decide +kernel
theorem mk_ua8 : ∀ U, U < 8 → mk_uc U = 3 → ∀ k, k < 3 → nw_b U k = 1 := by decide +kernel
theorem mk_ua16 : ∀ U, U < 16 → mk_uc U = 4 → ∀ k, k < 4 → nw_b U k = 1 := by decide +kernel
def mk_ib (f m : Nat) (I : Nat → Nat) : Prop := ∀ k, k < m → mk_tlo (f + k) ≤ I k ∧ I k ≤ mk_thi (f + k)
def mk_fi (cc b m : Nat) (M M' : mj_M) : Prop := ∀ c k, ¬ (c = 48 ∧ (k = 3 ∨ k = 4) ∨ c = cc ∧ b ≤ k ∧ k < b + m) → M' c k = M c k
/-- both readers at the items of a clause -/
def mk_gi (τ : Nat → Nat) (z f m cc b : Nat) (I : Nat → Nat) (p : Nat) (F G : mj_M → Option mj_M) : Prop :=
  (∃ I' p1 p2, p ≤ p1 ∧ p1 ≤ z ∧ p2 ≤ z ∧ mk_sq τ z p1 = mk_sq τ z p2 ∧ mk_ib f m I' ∧ (∀ M, mk_qx τ z p M → (∀ k, k < m → M 5 (f + k) = nI (I k)) → ∃ M', F M = some M' ∧ mk_qx τ z p1 M' ∧ (∀ k, k < m → M' 5 (f + k) = nI (I' k)) ∧ (∀ c, c ≠ 2 → c ≠ 5 → M' c = M c)) ∧ (∀ M, mk_qm τ z (mk_sq τ z p) M → (∀ k, k < m → M cc (b + k) = nI (I k)) → ∃ M', G M = some M' ∧ mk_qm τ z p2 M' ∧ (∀ k, k < m → M' cc (b + k) = nI (I' k)) ∧ mk_fi cc b m M M'))
  ∨ (∃ w, w ≤ z ∧ (∀ M, mk_qx τ z p M → ∃ M', F M = some M' ∧ M' 2 3 = nI w ∧ M' 2 1 = nI z ∧ (∀ c, c ≠ 2 → c ≠ 5 → M' c = M c)) ∧ (∀ M, mk_qm τ z (mk_sq τ z p) M → ∃ M', G M = some M' ∧ M' 48 4 = nI w ∧ mk_fi cc b m M M'))
section Items
variable {N : Nat} {τ : Nat → Nat} {z p : Nat} {M : mj_M} {i t c n W w : Nat}
theorem mk_iastep (hi : i < t) (ht : t ≤ 10) (hc : c < 256) (hW : W < 2048) : F_CoastReader_itemAt_b12 N (n + 1) (nI t) (nI W) (nI c) (nI i) M = if mk_tle i = c then (if nw_b W i = 0 then some (nI i, M) else F_CoastReader_itemAt_b12 N n (nI t) (nI W) (nI c) (nI (i + 1)) M) else F_CoastReader_itemAt_b12 N n (nI t) (nI W) (nI c) (nI (i + 1)) M := by
  have hl := (mk_t99 i (by omega)).2.2.2.2.2
  have hb := nw_b2 W i
  have ebit : (nI W >>> (nI i &&& 31)) &&& (1 : Int32) = nI (nw_b W i) := nw_bit (by omega) (by omega)
  rw [F_CoastReader_itemAt_b12, if_neg (nI_ge hi (by omega)), nw_ck (show i < ([98, 109, 97, 111, 107, 99, 119, 108, 107, 114] : List Int32).length by show i < 10; omega) (by decide), nI_clamp (by omega), mk_tle_x i (by omega), ebit, nI_1, nl_0]
  simp (disch := omega) only [nw_eq]
theorem mk_iaf (hW : W < 2048) (ht : t ≤ 10) : ∀ d i n, i + d = t → d < n → F_CoastReader_itemAt_b12 N n (nI t) (nI W) (nI 0) (nI i) M = some (-nI 1, M) := by
  intro d
  induction d with
  | zero =>
    intro i n h1 h2
    obtain ⟨n, rfl⟩ : ∃ k, n = k + 1 := ⟨n - 1, by omega⟩
    rw [F_CoastReader_itemAt_b12, show i = t by omega, if_pos (Int32.le_refl _)]
    rfl
  | succ d ih =>
    intro i n h1 h2
    obtain ⟨n, rfl⟩ : ∃ k, n = k + 1 := ⟨n - 1, by omega⟩
    have hl := (mk_t99 i (by omega)).2.2.2.2.1
    rw [mk_iastep (by omega) ht (by omega) hW, if_neg (by omega)]
    exact ih (i + 1) n (by omega) (by omega)
theorem mk_b24f {f : Nat} (hN : 1000 ≤ N) (hw : M 2 3 = nI w) (hw2 : w < 2 ^ 31) (hW : W < 2048) (hf : f ≤ t) (ht : t ≤ 10) (x : Int32) : F_CoastReader_readItems_b24 N (n + 1) (nI f) (nI t) (nI W) x M = some M := by
  rw [F_CoastReader_readItems_b24]
  by_cases c : nI t ≤ x
  · rw [if_pos c]
  · rw [if_neg c, F_CoastReader_itemAt, mk_Xpeek0 hw hw2, mk_bs]
    have e := mk_iaf (N := N) (M := M) hW ht (t - f) f N (by omega) (by omega)
    show (F_CoastReader_itemAt_b12 N N (nI t) (nI W) (nI 0) (nI f) M).bind _ = _
    rw [e, mk_bs, if_pos (show -nI 1 = (-1 : Int32) from rfl)]
theorem mk_fi.rf {cc b m : Nat} : mk_fi cc b m M M := fun _ _ _ => rfl
theorem mk_fi.tr {cc b m : Nat} {M1 M2 : mj_M} (h : mk_fi cc b m M M1) (k : mk_fi cc b m M1 M2) : mk_fi cc b m M M2 := fun c j hc => (k c j hc).trans (h c j hc)
theorem mk_fi.u {cc b m : Nat} {M1 : mj_M} (h : mk_fi cc b m M M1) {c k : Nat} {v : Int32} (hc : c = 48 ∧ (k = 3 ∨ k = 4) ∨ c = cc ∧ b ≤ k ∧ k < b + m) : mk_fi cc b m M (mj_u M1 c k v) := by
  intro c' k' h'
  by_cases e : c' = c
  · subst e
    rw [mj_u_eq, mj_up_ne _ _ _ (fun e => h' (by rw [e]; exact hc))]
    exact h _ _ h'
  · rw [nw_u9 _ e]; exact h _ _ h'
theorem mk_Xia_0 (hN : 1000 ≤ N) (h : mk_qx τ z p M) {U : Nat} (hU : U < 16) : F_CoastReader_itemAt N (0 : Int32) (4 : Int32) (nI (U * 2 ^ 0)) M = some (if mk_kk 0 4 (mk_ch τ z p) < 9 ∧ nw_b U (mk_kk 0 4 (mk_ch τ z p)) = 0 then nI (0 + mk_kk 0 4 (mk_ch τ z p)) else -nI 1, mj_u M 2 2 (nI (mk_sq τ z p))) := by
  have hc : mk_ch τ z p < 256 := mk_c0_lt h.1.1 _
  rw [F_CoastReader_itemAt, h.pk hN, mk_bs]
  dsimp only
  generalize mj_u M 2 2 (nI (mk_sq τ z p)) = M1
  generalize mk_ch τ z p = c at *
  obtain ⟨n, hn⟩ : ∃ k, N = k + 1 + 1 + 1 + 1 + 1 := ⟨N - 5, by omega⟩
  have e0 : F_CoastReader_itemAt_b12 N N (4 : Int32) (nI (U * 2 ^ 0)) (nI c) (0 : Int32) M1 = F_CoastReader_itemAt_b12 N (n + 1 + 1 + 1 + 1 + 1) (nI 4) (nI (U * 2 ^ 0)) (nI c) (nI 0) M1 := by rw [← hn]; rfl
  have u0 : nw_b (U * 2 ^ 0) 0 = nw_b U 0 := (mk_us 0 (by omega) U (by omega) 0 (by omega)).1
  have u1 : nw_b (U * 2 ^ 0) (0 + 1) = nw_b U 1 := (mk_us 0 (by omega) U (by omega) 1 (by omega)).1
  have u2 : nw_b (U * 2 ^ 0) (0 + 1 + 1) = nw_b U 2 := (mk_us 0 (by omega) U (by omega) 2 (by omega)).1
  have u3 : nw_b (U * 2 ^ 0) (0 + 1 + 1 + 1) = nw_b U 3 := (mk_us 0 (by omega) U (by omega) 3 (by omega)).1
  have uw := (mk_us 0 (by omega) U (by omega) 0 (by omega)).2.2
  rw [e0, mk_iastep (by omega) (by omega) hc uw, mk_iastep (by omega) (by omega) hc uw, mk_iastep (by omega) (by omega) hc uw, mk_iastep (by omega) (by omega) hc uw, F_CoastReader_itemAt_b12, if_pos (Int32.le_refl _), u0, u1, u2, u3, show mk_tle 0 = 98 from rfl, show mk_tle (0 + 1) = 109 from rfl, show mk_tle (0 + 1 + 1) = 97 from rfl, show mk_tle (0 + 1 + 1 + 1) = 111 from rfl]
  by_cases h0 : 98 = c
  · have hk : mk_kk 0 4 c = 0 := by unfold mk_kk; rw [if_pos (show mk_tle 0 = c from h0)]
    rw [hk, if_pos h0, if_neg (show ¬ 109 = c by omega), if_neg (show ¬ 97 = c by omega), if_neg (show ¬ 111 = c by omega)]
    by_cases b : nw_b U 0 = 0
    · rw [if_pos b, if_pos ⟨by omega, b⟩]
    · rw [if_neg b, if_neg (fun x => b x.2)]
      rfl
  by_cases h1 : 109 = c
  · have hk : mk_kk 0 4 c = 1 := by unfold mk_kk; rw [if_neg (show ¬ mk_tle 0 = c from h0), if_pos (show mk_tle (0 + 1) = c from h1)]
    rw [hk, if_neg h0, if_pos h1, if_neg (show ¬ 97 = c by omega), if_neg (show ¬ 111 = c by omega)]
    by_cases b : nw_b U 1 = 0
    · rw [if_pos b, if_pos ⟨by omega, b⟩]
    · rw [if_neg b, if_neg (fun x => b x.2)]
      rfl
  by_cases h2 : 97 = c
  · have hk : mk_kk 0 4 c = 2 := by unfold mk_kk; rw [if_neg (show ¬ mk_tle 0 = c from h0), if_neg (show ¬ mk_tle (0 + 1) = c from h1), if_pos (show mk_tle (0 + 2) = c from h2)]
    rw [hk, if_neg h0, if_neg h1, if_pos h2, if_neg (show ¬ 111 = c by omega)]
    by_cases b : nw_b U 2 = 0
    · rw [if_pos b, if_pos ⟨by omega, b⟩]
    · rw [if_neg b, if_neg (fun x => b x.2)]
      rfl
  by_cases h3 : 111 = c
  · have hk : mk_kk 0 4 c = 3 := by unfold mk_kk; rw [if_neg (show ¬ mk_tle 0 = c from h0), if_neg (show ¬ mk_tle (0 + 1) = c from h1), if_neg (show ¬ mk_tle (0 + 2) = c from h2), if_pos (show 4 = 4 ∧ mk_tle (0 + 3) = c from ⟨rfl, h3⟩)]
    rw [hk, if_neg h0, if_neg h1, if_neg h2, if_pos h3]
    by_cases b : nw_b U 3 = 0
    · rw [if_pos b, if_pos ⟨by omega, b⟩]
    · rw [if_neg b, if_neg (fun x => b x.2)]
      rfl
  have hk : mk_kk 0 4 c = 9 := by unfold mk_kk; rw [if_neg (show ¬ mk_tle 0 = c from h0), if_neg (show ¬ mk_tle (0 + 1) = c from h1), if_neg (show ¬ mk_tle (0 + 2) = c from h2), if_neg (fun x : 4 = 4 ∧ mk_tle (0 + 3) = c => h3 x.2)]
  rw [hk, if_neg h0, if_neg h1, if_neg h2, if_neg h3, if_neg (fun x => absurd x.1 (by decide))]
  rfl
theorem mk_Mit_0 (hc : c < 256) : F_M_itemOf (nI 115) (mk_mc c) M = some (if mk_kk 0 4 c < 9 then nI (mk_kk 0 4 c) else -nI 1, M) := by
  rw [F_M_itemOf, if_neg (show ¬ nI 115 = (104 : Int32) by decide +kernel), if_pos (show nI 115 = (115 : Int32) from rfl), nl_98, nl_109, nl_97, nl_111]
  simp (disch := omega) only [mk_mc_eq]
  by_cases h0 : 98 = c
  · have hk : mk_kk 0 4 c = 0 := by unfold mk_kk; rw [if_pos (show mk_tle 0 = c from h0)]
    rw [hk, if_pos h0.symm]
    rfl
  by_cases h1 : 109 = c
  · have hk : mk_kk 0 4 c = 1 := by unfold mk_kk; rw [if_neg (show ¬ mk_tle 0 = c from h0), if_pos (show mk_tle (0 + 1) = c from h1)]
    rw [hk, if_neg (show ¬ c = 98 by omega), if_pos h1.symm]
    rfl
  by_cases h2 : 97 = c
  · have hk : mk_kk 0 4 c = 2 := by unfold mk_kk; rw [if_neg (show ¬ mk_tle 0 = c from h0), if_neg (show ¬ mk_tle (0 + 1) = c from h1), if_pos (show mk_tle (0 + 2) = c from h2)]
    rw [hk, if_neg (show ¬ c = 98 by omega), if_neg (show ¬ c = 109 by omega), if_pos h2.symm]
    rfl
  by_cases h3 : 111 = c
  · have hk : mk_kk 0 4 c = 3 := by unfold mk_kk; rw [if_neg (show ¬ mk_tle 0 = c from h0), if_neg (show ¬ mk_tle (0 + 1) = c from h1), if_neg (show ¬ mk_tle (0 + 2) = c from h2), if_pos (show 4 = 4 ∧ mk_tle (0 + 3) = c from ⟨rfl, h3⟩)]
    rw [hk, if_neg (show ¬ c = 98 by omega), if_neg (show ¬ c = 109 by omega), if_neg (show ¬ c = 97 by omega), if_pos h3.symm]
    rfl
  have hk : mk_kk 0 4 c = 9 := by unfold mk_kk; rw [if_neg (show ¬ mk_tle 0 = c from h0), if_neg (show ¬ mk_tle (0 + 1) = c from h1), if_neg (show ¬ mk_tle (0 + 2) = c from h2), if_neg (fun x : 4 = 4 ∧ mk_tle (0 + 3) = c => h3 x.2)]
  rw [hk, if_neg (show ¬ c = 98 by omega), if_neg (show ¬ c = 109 by omega), if_neg (show ¬ c = 97 by omega), if_neg (show ¬ c = 111 by omega)]
  rfl
theorem mk_Mhi_0 {k : Nat} (hk : k < 4) : F_M_highest (nI 115) (nI k) M = some (nI (mk_thi (0 + k)), M) := by
  unfold F_M_highest
  rcases (show k = 0 ∨ k = 1 ∨ k = 2 ∨ k = 3 by omega) with rfl | rfl | rfl | rfl
  · rw [if_neg (show ¬ nI 115 = (104 : Int32) by decide +kernel), if_pos (show nI 115 = (115 : Int32) from rfl)]
    simp only [if_pos (show nI 0 = (0 : Int32) from rfl), if_neg (show ¬ nI 0 = (1 : Int32) by decide +kernel), if_neg (show ¬ nI 0 = (2 : Int32) by decide +kernel)]
    rfl
  · rw [if_neg (show ¬ nI 115 = (104 : Int32) by decide +kernel), if_pos (show nI 115 = (115 : Int32) from rfl)]
    simp only [if_neg (show ¬ nI 1 = (0 : Int32) by decide +kernel), if_pos (show nI 1 = (1 : Int32) from rfl), if_neg (show ¬ nI 1 = (2 : Int32) by decide +kernel)]
    rfl
  · rw [if_neg (show ¬ nI 115 = (104 : Int32) by decide +kernel), if_pos (show nI 115 = (115 : Int32) from rfl)]
    simp only [if_neg (show ¬ nI 2 = (0 : Int32) by decide +kernel), if_neg (show ¬ nI 2 = (1 : Int32) by decide +kernel), if_pos (show nI 2 = (2 : Int32) from rfl)]
    rfl
  · rw [if_neg (show ¬ nI 115 = (104 : Int32) by decide +kernel), if_pos (show nI 115 = (115 : Int32) from rfl)]
    simp only [if_neg (show ¬ nI 3 = (0 : Int32) by decide +kernel), if_neg (show ¬ nI 3 = (1 : Int32) by decide +kernel), if_neg (show ¬ nI 3 = (2 : Int32) by decide +kernel)]
    rfl
theorem mk_Mus_0 {k : Nat} (hk : k < 4) : F_M_usual (nI 115) (nI k) M = some (nI (mk_tus (0 + k)), M) := by
  unfold F_M_usual
  rcases (show k = 0 ∨ k = 1 ∨ k = 2 ∨ k = 3 by omega) with rfl | rfl | rfl | rfl
  · rw [if_neg (show ¬ nI 115 = (104 : Int32) by decide +kernel), if_pos (show nI 115 = (115 : Int32) from rfl)]
    simp only [if_pos (show nI 0 = (0 : Int32) from rfl), if_neg (show ¬ nI 0 = (1 : Int32) by decide +kernel), if_neg (show ¬ nI 0 = (2 : Int32) by decide +kernel)]
    rfl
  · rw [if_neg (show ¬ nI 115 = (104 : Int32) by decide +kernel), if_pos (show nI 115 = (115 : Int32) from rfl)]
    simp only [if_neg (show ¬ nI 1 = (0 : Int32) by decide +kernel), if_pos (show nI 1 = (1 : Int32) from rfl), if_neg (show ¬ nI 1 = (2 : Int32) by decide +kernel)]
    rfl
  · rw [if_neg (show ¬ nI 115 = (104 : Int32) by decide +kernel), if_pos (show nI 115 = (115 : Int32) from rfl)]
    simp only [if_neg (show ¬ nI 2 = (0 : Int32) by decide +kernel), if_neg (show ¬ nI 2 = (1 : Int32) by decide +kernel), if_pos (show nI 2 = (2 : Int32) from rfl)]
    rfl
  · rw [if_neg (show ¬ nI 115 = (104 : Int32) by decide +kernel), if_pos (show nI 115 = (115 : Int32) from rfl)]
    simp only [if_neg (show ¬ nI 3 = (0 : Int32) by decide +kernel), if_neg (show ¬ nI 3 = (1 : Int32) by decide +kernel), if_neg (show ¬ nI 3 = (2 : Int32) by decide +kernel)]
    rfl
theorem mk_Xia_4 (hN : 1000 ≤ N) (h : mk_qx τ z p M) {U : Nat} (hU : U < 8) : F_CoastReader_itemAt N (4 : Int32) (7 : Int32) (nI (U * 2 ^ 4)) M = some (if mk_kk 4 3 (mk_ch τ z p) < 9 ∧ nw_b U (mk_kk 4 3 (mk_ch τ z p)) = 0 then nI (4 + mk_kk 4 3 (mk_ch τ z p)) else -nI 1, mj_u M 2 2 (nI (mk_sq τ z p))) := by
  have hc : mk_ch τ z p < 256 := mk_c0_lt h.1.1 _
  rw [F_CoastReader_itemAt, h.pk hN, mk_bs]
  dsimp only
  generalize mj_u M 2 2 (nI (mk_sq τ z p)) = M1
  generalize mk_ch τ z p = c at *
  obtain ⟨n, hn⟩ : ∃ k, N = k + 1 + 1 + 1 + 1 := ⟨N - 4, by omega⟩
  have e0 : F_CoastReader_itemAt_b12 N N (7 : Int32) (nI (U * 2 ^ 4)) (nI c) (4 : Int32) M1 = F_CoastReader_itemAt_b12 N (n + 1 + 1 + 1 + 1) (nI 7) (nI (U * 2 ^ 4)) (nI c) (nI 4) M1 := by rw [← hn]; rfl
  have u0 : nw_b (U * 2 ^ 4) 4 = nw_b U 0 := (mk_us 4 (by omega) U (by omega) 0 (by omega)).1
  have u1 : nw_b (U * 2 ^ 4) (4 + 1) = nw_b U 1 := (mk_us 4 (by omega) U (by omega) 1 (by omega)).1
  have u2 : nw_b (U * 2 ^ 4) (4 + 1 + 1) = nw_b U 2 := (mk_us 4 (by omega) U (by omega) 2 (by omega)).1
  have uw := (mk_us 4 (by omega) U (by omega) 0 (by omega)).2.2
  rw [e0, mk_iastep (by omega) (by omega) hc uw, mk_iastep (by omega) (by omega) hc uw, mk_iastep (by omega) (by omega) hc uw, F_CoastReader_itemAt_b12, if_pos (Int32.le_refl _), u0, u1, u2, show mk_tle 4 = 107 from rfl, show mk_tle (4 + 1) = 99 from rfl, show mk_tle (4 + 1 + 1) = 119 from rfl]
  by_cases h0 : 107 = c
  · have hk : mk_kk 4 3 c = 0 := by unfold mk_kk; rw [if_pos (show mk_tle 4 = c from h0)]
    rw [hk, if_pos h0, if_neg (show ¬ 99 = c by omega), if_neg (show ¬ 119 = c by omega)]
    by_cases b : nw_b U 0 = 0
    · rw [if_pos b, if_pos ⟨by omega, b⟩]
    · rw [if_neg b, if_neg (fun x => b x.2)]
      rfl
  by_cases h1 : 99 = c
  · have hk : mk_kk 4 3 c = 1 := by unfold mk_kk; rw [if_neg (show ¬ mk_tle 4 = c from h0), if_pos (show mk_tle (4 + 1) = c from h1)]
    rw [hk, if_neg h0, if_pos h1, if_neg (show ¬ 119 = c by omega)]
    by_cases b : nw_b U 1 = 0
    · rw [if_pos b, if_pos ⟨by omega, b⟩]
    · rw [if_neg b, if_neg (fun x => b x.2)]
      rfl
  by_cases h2 : 119 = c
  · have hk : mk_kk 4 3 c = 2 := by unfold mk_kk; rw [if_neg (show ¬ mk_tle 4 = c from h0), if_neg (show ¬ mk_tle (4 + 1) = c from h1), if_pos (show mk_tle (4 + 2) = c from h2)]
    rw [hk, if_neg h0, if_neg h1, if_pos h2]
    by_cases b : nw_b U 2 = 0
    · rw [if_pos b, if_pos ⟨by omega, b⟩]
    · rw [if_neg b, if_neg (fun x => b x.2)]
      rfl
  have hk : mk_kk 4 3 c = 9 := by unfold mk_kk; rw [if_neg (show ¬ mk_tle 4 = c from h0), if_neg (show ¬ mk_tle (4 + 1) = c from h1), if_neg (show ¬ mk_tle (4 + 2) = c from h2), if_neg (fun x : 3 = 4 ∧ mk_tle (4 + 3) = c => absurd x.1 (by decide))]
  rw [hk, if_neg h0, if_neg h1, if_neg h2, if_neg (fun x => absurd x.1 (by decide))]
  rfl
theorem mk_Mit_4 (hc : c < 256) : F_M_itemOf (nI 104) (mk_mc c) M = some (if mk_kk 4 3 c < 9 then nI (mk_kk 4 3 c) else -nI 1, M) := by
  rw [F_M_itemOf, if_pos (show nI 104 = (104 : Int32) from rfl), nl_107, nl_99, nl_119]
  simp (disch := omega) only [mk_mc_eq]
  by_cases h0 : 107 = c
  · have hk : mk_kk 4 3 c = 0 := by unfold mk_kk; rw [if_pos (show mk_tle 4 = c from h0)]
    rw [hk, if_pos h0.symm]
    rfl
  by_cases h1 : 99 = c
  · have hk : mk_kk 4 3 c = 1 := by unfold mk_kk; rw [if_neg (show ¬ mk_tle 4 = c from h0), if_pos (show mk_tle (4 + 1) = c from h1)]
    rw [hk, if_neg (show ¬ c = 107 by omega), if_pos h1.symm]
    rfl
  by_cases h2 : 119 = c
  · have hk : mk_kk 4 3 c = 2 := by unfold mk_kk; rw [if_neg (show ¬ mk_tle 4 = c from h0), if_neg (show ¬ mk_tle (4 + 1) = c from h1), if_pos (show mk_tle (4 + 2) = c from h2)]
    rw [hk, if_neg (show ¬ c = 107 by omega), if_neg (show ¬ c = 99 by omega), if_pos h2.symm]
    rfl
  have hk : mk_kk 4 3 c = 9 := by unfold mk_kk; rw [if_neg (show ¬ mk_tle 4 = c from h0), if_neg (show ¬ mk_tle (4 + 1) = c from h1), if_neg (show ¬ mk_tle (4 + 2) = c from h2), if_neg (fun x : 3 = 4 ∧ mk_tle (4 + 3) = c => absurd x.1 (by decide))]
  rw [hk, if_neg (show ¬ c = 107 by omega), if_neg (show ¬ c = 99 by omega), if_neg (show ¬ c = 119 by omega)]
  rfl
theorem mk_Mhi_4 {k : Nat} (hk : k < 3) : F_M_highest (nI 104) (nI k) M = some (nI (mk_thi (4 + k)), M) := by
  unfold F_M_highest
  rcases (show k = 0 ∨ k = 1 ∨ k = 2 by omega) with rfl | rfl | rfl
  · rw [if_pos (show nI 104 = (104 : Int32) from rfl)]
    simp only [if_pos (show nI 0 = (0 : Int32) from rfl), if_neg (show ¬ nI 0 = (1 : Int32) by decide +kernel), if_neg (show ¬ nI 0 = (2 : Int32) by decide +kernel)]
    rfl
  · rw [if_pos (show nI 104 = (104 : Int32) from rfl)]
    simp only [if_neg (show ¬ nI 1 = (0 : Int32) by decide +kernel), if_pos (show nI 1 = (1 : Int32) from rfl), if_neg (show ¬ nI 1 = (2 : Int32) by decide +kernel)]
    rfl
  · rw [if_pos (show nI 104 = (104 : Int32) from rfl)]
    simp only [if_neg (show ¬ nI 2 = (0 : Int32) by decide +kernel), if_neg (show ¬ nI 2 = (1 : Int32) by decide +kernel), if_pos (show nI 2 = (2 : Int32) from rfl)]
    rfl
theorem mk_Mus_4 {k : Nat} (hk : k < 3) : F_M_usual (nI 104) (nI k) M = some (nI (mk_tus (4 + k)), M) := by
  unfold F_M_usual
  rcases (show k = 0 ∨ k = 1 ∨ k = 2 by omega) with rfl | rfl | rfl
  · rw [if_pos (show nI 104 = (104 : Int32) from rfl)]
    simp only [if_pos (show nI 0 = (0 : Int32) from rfl), if_neg (show ¬ nI 0 = (1 : Int32) by decide +kernel), if_neg (show ¬ nI 0 = (2 : Int32) by decide +kernel)]
    rfl
  · rw [if_pos (show nI 104 = (104 : Int32) from rfl)]
    simp only [if_neg (show ¬ nI 1 = (0 : Int32) by decide +kernel), if_pos (show nI 1 = (1 : Int32) from rfl), if_neg (show ¬ nI 1 = (2 : Int32) by decide +kernel)]
    rfl
  · rw [if_pos (show nI 104 = (104 : Int32) from rfl)]
    simp only [if_neg (show ¬ nI 2 = (0 : Int32) by decide +kernel), if_neg (show ¬ nI 2 = (1 : Int32) by decide +kernel), if_pos (show nI 2 = (2 : Int32) from rfl)]
    rfl
theorem mk_Xia_7 (hN : 1000 ≤ N) (h : mk_qx τ z p M) {U : Nat} (hU : U < 8) : F_CoastReader_itemAt N (7 : Int32) (10 : Int32) (nI (U * 2 ^ 7)) M = some (if mk_kk 7 3 (mk_ch τ z p) < 9 ∧ nw_b U (mk_kk 7 3 (mk_ch τ z p)) = 0 then nI (7 + mk_kk 7 3 (mk_ch τ z p)) else -nI 1, mj_u M 2 2 (nI (mk_sq τ z p))) := by
  have hc : mk_ch τ z p < 256 := mk_c0_lt h.1.1 _
  rw [F_CoastReader_itemAt, h.pk hN, mk_bs]
  dsimp only
  generalize mj_u M 2 2 (nI (mk_sq τ z p)) = M1
  generalize mk_ch τ z p = c at *
  obtain ⟨n, hn⟩ : ∃ k, N = k + 1 + 1 + 1 + 1 := ⟨N - 4, by omega⟩
  have e0 : F_CoastReader_itemAt_b12 N N (10 : Int32) (nI (U * 2 ^ 7)) (nI c) (7 : Int32) M1 = F_CoastReader_itemAt_b12 N (n + 1 + 1 + 1 + 1) (nI 10) (nI (U * 2 ^ 7)) (nI c) (nI 7) M1 := by rw [← hn]; rfl
  have u0 : nw_b (U * 2 ^ 7) 7 = nw_b U 0 := (mk_us 7 (by omega) U (by omega) 0 (by omega)).1
  have u1 : nw_b (U * 2 ^ 7) (7 + 1) = nw_b U 1 := (mk_us 7 (by omega) U (by omega) 1 (by omega)).1
  have u2 : nw_b (U * 2 ^ 7) (7 + 1 + 1) = nw_b U 2 := (mk_us 7 (by omega) U (by omega) 2 (by omega)).1
  have uw := (mk_us 7 (by omega) U (by omega) 0 (by omega)).2.2
  rw [e0, mk_iastep (by omega) (by omega) hc uw, mk_iastep (by omega) (by omega) hc uw, mk_iastep (by omega) (by omega) hc uw, F_CoastReader_itemAt_b12, if_pos (Int32.le_refl _), u0, u1, u2, show mk_tle 7 = 108 from rfl, show mk_tle (7 + 1) = 107 from rfl, show mk_tle (7 + 1 + 1) = 114 from rfl]
  by_cases h0 : 108 = c
  · have hk : mk_kk 7 3 c = 0 := by unfold mk_kk; rw [if_pos (show mk_tle 7 = c from h0)]
    rw [hk, if_pos h0, if_neg (show ¬ 107 = c by omega), if_neg (show ¬ 114 = c by omega)]
    by_cases b : nw_b U 0 = 0
    · rw [if_pos b, if_pos ⟨by omega, b⟩]
    · rw [if_neg b, if_neg (fun x => b x.2)]
      rfl
  by_cases h1 : 107 = c
  · have hk : mk_kk 7 3 c = 1 := by unfold mk_kk; rw [if_neg (show ¬ mk_tle 7 = c from h0), if_pos (show mk_tle (7 + 1) = c from h1)]
    rw [hk, if_neg h0, if_pos h1, if_neg (show ¬ 114 = c by omega)]
    by_cases b : nw_b U 1 = 0
    · rw [if_pos b, if_pos ⟨by omega, b⟩]
    · rw [if_neg b, if_neg (fun x => b x.2)]
      rfl
  by_cases h2 : 114 = c
  · have hk : mk_kk 7 3 c = 2 := by unfold mk_kk; rw [if_neg (show ¬ mk_tle 7 = c from h0), if_neg (show ¬ mk_tle (7 + 1) = c from h1), if_pos (show mk_tle (7 + 2) = c from h2)]
    rw [hk, if_neg h0, if_neg h1, if_pos h2]
    by_cases b : nw_b U 2 = 0
    · rw [if_pos b, if_pos ⟨by omega, b⟩]
    · rw [if_neg b, if_neg (fun x => b x.2)]
      rfl
  have hk : mk_kk 7 3 c = 9 := by unfold mk_kk; rw [if_neg (show ¬ mk_tle 7 = c from h0), if_neg (show ¬ mk_tle (7 + 1) = c from h1), if_neg (show ¬ mk_tle (7 + 2) = c from h2), if_neg (fun x : 3 = 4 ∧ mk_tle (7 + 3) = c => absurd x.1 (by decide))]
  rw [hk, if_neg h0, if_neg h1, if_neg h2, if_neg (fun x => absurd x.1 (by decide))]
  rfl
theorem mk_Mit_7 (hc : c < 256) : F_M_itemOf (nI 116) (mk_mc c) M = some (if mk_kk 7 3 c < 9 then nI (mk_kk 7 3 c) else -nI 1, M) := by
  rw [F_M_itemOf, if_neg (show ¬ nI 116 = (104 : Int32) by decide +kernel), if_neg (show ¬ nI 116 = (115 : Int32) by decide +kernel), nl_108, nl_107, nl_114]
  simp (disch := omega) only [mk_mc_eq]
  by_cases h0 : 108 = c
  · have hk : mk_kk 7 3 c = 0 := by unfold mk_kk; rw [if_pos (show mk_tle 7 = c from h0)]
    rw [hk, if_pos h0.symm]
    rfl
  by_cases h1 : 107 = c
  · have hk : mk_kk 7 3 c = 1 := by unfold mk_kk; rw [if_neg (show ¬ mk_tle 7 = c from h0), if_pos (show mk_tle (7 + 1) = c from h1)]
    rw [hk, if_neg (show ¬ c = 108 by omega), if_pos h1.symm]
    rfl
  by_cases h2 : 114 = c
  · have hk : mk_kk 7 3 c = 2 := by unfold mk_kk; rw [if_neg (show ¬ mk_tle 7 = c from h0), if_neg (show ¬ mk_tle (7 + 1) = c from h1), if_pos (show mk_tle (7 + 2) = c from h2)]
    rw [hk, if_neg (show ¬ c = 108 by omega), if_neg (show ¬ c = 107 by omega), if_pos h2.symm]
    rfl
  have hk : mk_kk 7 3 c = 9 := by unfold mk_kk; rw [if_neg (show ¬ mk_tle 7 = c from h0), if_neg (show ¬ mk_tle (7 + 1) = c from h1), if_neg (show ¬ mk_tle (7 + 2) = c from h2), if_neg (fun x : 3 = 4 ∧ mk_tle (7 + 3) = c => absurd x.1 (by decide))]
  rw [hk, if_neg (show ¬ c = 108 by omega), if_neg (show ¬ c = 107 by omega), if_neg (show ¬ c = 114 by omega)]
  rfl
theorem mk_Mhi_7 {k : Nat} (hk : k < 3) : F_M_highest (nI 116) (nI k) M = some (nI (mk_thi (7 + k)), M) := by
  unfold F_M_highest
  rcases (show k = 0 ∨ k = 1 ∨ k = 2 by omega) with rfl | rfl | rfl
  · rw [if_neg (show ¬ nI 116 = (104 : Int32) by decide +kernel), if_neg (show ¬ nI 116 = (115 : Int32) by decide +kernel)]
    simp only [if_pos (show nI 0 = (0 : Int32) from rfl), if_neg (show ¬ nI 0 = (1 : Int32) by decide +kernel), if_neg (show ¬ nI 0 = (2 : Int32) by decide +kernel)]
    rfl
  · rw [if_neg (show ¬ nI 116 = (104 : Int32) by decide +kernel), if_neg (show ¬ nI 116 = (115 : Int32) by decide +kernel)]
    simp only [if_neg (show ¬ nI 1 = (0 : Int32) by decide +kernel), if_pos (show nI 1 = (1 : Int32) from rfl), if_neg (show ¬ nI 1 = (2 : Int32) by decide +kernel)]
    rfl
  · rw [if_neg (show ¬ nI 116 = (104 : Int32) by decide +kernel), if_neg (show ¬ nI 116 = (115 : Int32) by decide +kernel)]
    simp only [if_neg (show ¬ nI 2 = (0 : Int32) by decide +kernel), if_neg (show ¬ nI 2 = (1 : Int32) by decide +kernel), if_pos (show nI 2 = (2 : Int32) from rfl)]
    rfl
theorem mk_Mus_7 {k : Nat} (hk : k < 3) : F_M_usual (nI 116) (nI k) M = some (nI (mk_tus (7 + k)), M) := by
  unfold F_M_usual
  rcases (show k = 0 ∨ k = 1 ∨ k = 2 by omega) with rfl | rfl | rfl
  · rw [if_neg (show ¬ nI 116 = (104 : Int32) by decide +kernel), if_neg (show ¬ nI 116 = (115 : Int32) by decide +kernel)]
    simp only [if_pos (show nI 0 = (0 : Int32) from rfl), if_neg (show ¬ nI 0 = (1 : Int32) by decide +kernel), if_neg (show ¬ nI 0 = (2 : Int32) by decide +kernel)]
    rfl
  · rw [if_neg (show ¬ nI 116 = (104 : Int32) by decide +kernel), if_neg (show ¬ nI 116 = (115 : Int32) by decide +kernel)]
    simp only [if_neg (show ¬ nI 1 = (0 : Int32) by decide +kernel), if_pos (show nI 1 = (1 : Int32) from rfl), if_neg (show ¬ nI 1 = (2 : Int32) by decide +kernel)]
    rfl
  · rw [if_neg (show ¬ nI 116 = (104 : Int32) by decide +kernel), if_neg (show ¬ nI 116 = (115 : Int32) by decide +kernel)]
    simp only [if_neg (show ¬ nI 2 = (0 : Int32) by decide +kernel), if_neg (show ¬ nI 2 = (1 : Int32) by decide +kernel), if_pos (show nI 2 = (2 : Int32) from rfl)]
    rfl
end Items
