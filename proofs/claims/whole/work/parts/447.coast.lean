/-! ===== the pure side: both coast readers: clauses ===== -/
def mk_kdx (K : mk_S) (M : mj_M) : Prop := M 41 0 = nI (K 48 20) ∧ M 41 1 = nI (K 48 21) ∧ (∀ k, k < 4 → M 41 (2 + k) = nI (K 59 k)) ∧ (∀ h, h < K 48 20 → M 42 h = nI (K 60 (3 * h)) ∧ M 43 h = nI (K 60 (3 * h + 1)) ∧ M 44 h = nI (K 60 (3 * h + 2))) ∧ (∀ t, t < K 48 21 → M 45 t = nI (K 61 (3 * t)) ∧ M 46 t = nI (K 61 (3 * t + 1)) ∧ M 47 t = nI (K 61 (3 * t + 2)))
def mk_kdm (K : mk_S) (M : mj_M) : Prop := M 48 20 = nI (K 48 20) ∧ M 48 21 = nI (K 48 21) ∧ (∀ k, k < 4 → M 59 k = nI (K 59 k)) ∧ (∀ k, k < 3 * K 48 20 → M 60 k = nI (K 60 k)) ∧ (∀ k, k < 3 * K 48 21 → M 61 k = nI (K 61 k))
def mk_kw (K : mk_S) : Prop := K 48 20 ≤ 6 ∧ K 48 21 ≤ 6 ∧ K 4 3 ≤ 1 ∧ mk_ib 0 4 (K 59) ∧ (∀ h, h < K 48 20 → mk_ib 4 3 (fun k => K 60 (3 * h + k))) ∧ (∀ t, t < K 48 21 → mk_ib 7 3 (fun k => K 61 (3 * t + k)))
def mk_kfx (B M : mj_M) : Prop := ∀ c, c ≠ 2 → c ≠ 4 → c ≠ 5 → ¬ (41 ≤ c ∧ c ≤ 47) → M c = B c
def mk_kfm (C M : mj_M) : Prop := ∀ c k, ¬ (c = 48 ∧ (k = 3 ∨ k = 4 ∨ k = 20 ∨ k = 21) ∨ c = 59 ∨ c = 60 ∨ c = 61) → M c k = C c k
def mk_kx (τ : Nat → Nat) (z : Nat) (B : mj_M) (K : mk_S) (p : Nat) (M : mj_M) : Prop := mk_qx τ z p M ∧ M 4 3 = nI (K 4 3) ∧ mk_kdx K M ∧ mk_kfx B M
def mk_km (τ : Nat → Nat) (z : Nat) (C : mj_M) (K : mk_S) (p : Nat) (M : mj_M) : Prop := mk_qm τ z p M ∧ mk_kdm K M ∧ mk_kfm C M
def mk_kxf (z : Nat) (B : mj_M) (w : Nat) (M : mj_M) : Prop := M 2 3 = nI w ∧ w ≤ 240 ∧ M 2 1 = nI z ∧ mk_kfx B M
def mk_kmf (C : mj_M) (w : Nat) (M : mj_M) : Prop := M 48 4 = nI w ∧ w ≤ 240 ∧ mk_kfm C M
def mk_Ks (K : mk_S) (I : Nat → Nat) : mk_S := fun c => if c = 59 then I else if c = 4 then va_up (K 4) 3 1 else K c
def mk_Kh (K : mk_S) (I : Nat → Nat) : mk_S := fun c => if c = 60 then (fun j => if 3 * K 48 20 ≤ j then I (j - 3 * K 48 20) else K 60 j) else if c = 48 then va_up (K 48) 20 (K 48 20 + 1) else K c
def mk_Kt (K : mk_S) (I : Nat → Nat) : mk_S := fun c => if c = 61 then (fun j => if 3 * K 48 21 ≤ j then I (j - 3 * K 48 21) else K 61 j) else if c = 48 then va_up (K 48) 21 (K 48 21 + 1) else K c
section Coast
variable {N : Nat} {τ : Nat → Nat} {z p w : Nat} {B C M M' : mj_M} {K : mk_S} {I : Nat → Nat}
theorem mk_Ks59 : mk_Ks K I 59 = I := if_pos rfl
theorem mk_Ks4 : mk_Ks K I 4 = va_up (K 4) 3 1 := by unfold mk_Ks; rw [if_neg (by omega), if_pos rfl]
theorem mk_Ksn {c : Nat} (h : c ≠ 59) (h' : c ≠ 4) : mk_Ks K I c = K c := by unfold mk_Ks; rw [if_neg h, if_neg h']
theorem mk_Kh60o {j : Nat} (h : j < 3 * K 48 20) : mk_Kh K I 60 j = K 60 j := by
  have e : mk_Kh K I 60 = fun j => if 3 * K 48 20 ≤ j then I (j - 3 * K 48 20) else K 60 j := if_pos rfl
  rw [e]
  exact if_neg (by omega)
theorem mk_Kh60n (k : Nat) : mk_Kh K I 60 (3 * K 48 20 + k) = I k := by
  have e : mk_Kh K I 60 = fun j => if 3 * K 48 20 ≤ j then I (j - 3 * K 48 20) else K 60 j := if_pos rfl
  rw [e]
  show (if 3 * K 48 20 ≤ 3 * K 48 20 + k then I (3 * K 48 20 + k - 3 * K 48 20) else _) = _
  rw [if_pos (by omega), Nat.add_sub_cancel_left]
theorem mk_Kh48 : mk_Kh K I 48 = va_up (K 48) 20 (K 48 20 + 1) := by unfold mk_Kh; rw [if_neg (by omega), if_pos rfl]
theorem mk_Khn {c : Nat} (h : c ≠ 60) (h' : c ≠ 48) : mk_Kh K I c = K c := by unfold mk_Kh; rw [if_neg h, if_neg h']
theorem mk_Kt61o {j : Nat} (h : j < 3 * K 48 21) : mk_Kt K I 61 j = K 61 j := by
  have e : mk_Kt K I 61 = fun j => if 3 * K 48 21 ≤ j then I (j - 3 * K 48 21) else K 61 j := if_pos rfl
  rw [e]
  exact if_neg (by omega)
theorem mk_Kt61n (k : Nat) : mk_Kt K I 61 (3 * K 48 21 + k) = I k := by
  have e : mk_Kt K I 61 = fun j => if 3 * K 48 21 ≤ j then I (j - 3 * K 48 21) else K 61 j := if_pos rfl
  rw [e]
  show (if 3 * K 48 21 ≤ 3 * K 48 21 + k then I (3 * K 48 21 + k - 3 * K 48 21) else _) = _
  rw [if_pos (by omega), Nat.add_sub_cancel_left]
theorem mk_Kt48 : mk_Kt K I 48 = va_up (K 48) 21 (K 48 21 + 1) := by unfold mk_Kt; rw [if_neg (by omega), if_pos rfl]
theorem mk_Ktn {c : Nat} (h : c ≠ 61) (h' : c ≠ 48) : mk_Kt K I c = K c := by unfold mk_Kt; rw [if_neg h, if_neg h']
theorem mk_kws (h : mk_kw K) (hI : mk_ib 0 4 I) : mk_kw (mk_Ks K I) := by
  unfold mk_kw
  rw [mk_Ks59, mk_Ks4, mk_Ksn (c := 48) (by omega) (by omega), mk_Ksn (c := 60) (by omega) (by omega), mk_Ksn (c := 61) (by omega) (by omega), mj_up_eq]
  exact ⟨h.1, h.2.1, by omega, hI, h.2.2.2.2.1, h.2.2.2.2.2⟩
theorem mk_kwh (h : mk_kw K) (hI : mk_ib 4 3 I) (h6 : K 48 20 < 6) : mk_kw (mk_Kh K I) := by
  unfold mk_kw
  rw [mk_Kh48, mk_Khn (c := 4) (by omega) (by omega), mk_Khn (c := 59) (by omega) (by omega), mk_Khn (c := 61) (by omega) (by omega), mj_up_eq, mj_up_ne _ _ _ (by omega)]
  refine ⟨by omega, h.2.1, h.2.2.1, h.2.2.2.1, fun j hj => ?_, h.2.2.2.2.2⟩
  by_cases e : j = K 48 20
  · intro k hk
    show mk_tlo (4 + k) ≤ mk_Kh K I 60 (3 * j + k) ∧ mk_Kh K I 60 (3 * j + k) ≤ mk_thi (4 + k)
    rw [e, mk_Kh60n]
    exact hI k hk
  · intro k hk
    show mk_tlo (4 + k) ≤ mk_Kh K I 60 (3 * j + k) ∧ mk_Kh K I 60 (3 * j + k) ≤ mk_thi (4 + k)
    rw [mk_Kh60o (by omega)]
    exact h.2.2.2.2.1 j (by omega) k hk
theorem mk_kwt (h : mk_kw K) (hI : mk_ib 7 3 I) (h6 : K 48 21 < 6) : mk_kw (mk_Kt K I) := by
  unfold mk_kw
  rw [mk_Kt48, mk_Ktn (c := 4) (by omega) (by omega), mk_Ktn (c := 59) (by omega) (by omega), mk_Ktn (c := 60) (by omega) (by omega), mj_up_eq, mj_up_ne _ _ _ (by omega)]
  refine ⟨h.1, by omega, h.2.2.1, h.2.2.2.1, h.2.2.2.2.1, fun j hj => ?_⟩
  by_cases e : j = K 48 21
  · intro k hk
    show mk_tlo (7 + k) ≤ mk_Kt K I 61 (3 * j + k) ∧ mk_Kt K I 61 (3 * j + k) ≤ mk_thi (7 + k)
    rw [e, mk_Kt61n]
    exact hI k hk
  · intro k hk
    show mk_tlo (7 + k) ≤ mk_Kt K I 61 (3 * j + k) ∧ mk_Kt K I 61 (3 * j + k) ≤ mk_thi (7 + k)
    rw [mk_Kt61o (by omega)]
    exact h.2.2.2.2.2 j (by omega) k hk
theorem mk_kfx.u (h : mk_kfx B M) {c k : Nat} {v : Int32} (hc : c = 2 ∨ c = 4 ∨ c = 5 ∨ 41 ≤ c ∧ c ≤ 47) : mk_kfx B (mj_u M c k v) := fun d h1 h2 h3 h4 => by
  rw [nw_u9 _ (by omega)]; exact h d h1 h2 h3 h4
theorem mk_kfx.f (h : mk_kfx B M) (k : ∀ c, c ≠ 2 → c ≠ 5 → M' c = M c) : mk_kfx B M' := fun d h1 h2 h3 h4 => by
  rw [k d h1 h3]; exact h d h1 h2 h3 h4
theorem mk_kfm.u (h : mk_kfm C M) {c k : Nat} {v : Int32} (hc : c = 48 ∧ (k = 3 ∨ k = 4 ∨ k = 20 ∨ k = 21) ∨ c = 59 ∨ c = 60 ∨ c = 61) : mk_kfm C (mj_u M c k v) := by
  intro c' k' h'
  by_cases e : c' = c
  · subst e
    rw [mj_u_eq, mj_up_ne _ _ _ (fun e => h' (by rw [e]; exact hc))]
    exact h _ _ h'
  · rw [nw_u9 _ e]; exact h _ _ h'
theorem mk_kfm.f {cc b m : Nat} (h : mk_kfm C M) (k : mk_fi cc b m M M') (hc : cc = 59 ∨ cc = 60 ∨ cc = 61) : mk_kfm C M' := fun d j h1 => by
  rw [k d j (by omega)]; exact h d j h1
theorem mk_keR (M : mj_M) : F_CoastReader_keepRules M = some (mj_u (mj_u (mj_u (mj_u M 41 2 (M 5 0)) 41 3 (M 5 1)) 41 4 (M 5 2)) 41 5 (M 5 3)) := by
  unfold F_CoastReader_keepRules
  simp (disch := omega) only [mj_lt, nw_u9]
theorem mk_keH {H : Nat} (hH : M 41 0 = nI H) (h6 : H < 6) : F_CoastReader_keepHouse M = some (mj_u (mj_u (mj_u (mj_u M 42 H (M 5 4)) 43 H (M 5 5)) 44 H (M 5 6)) 41 0 (nI (H + 1))) := by
  unfold F_CoastReader_keepHouse
  simp only [mj_lt]
  rw [hH, nw_ck h6 (by omega), nw_ck h6 (by omega), nw_ck h6 (by omega), nI_clamp (by omega)]
  simp (disch := omega) only [nw_u9]
  rw [hH, nI_1]
theorem mk_keT {H : Nat} (hH : M 41 1 = nI H) (h6 : H < 6) : F_CoastReader_keepTale M = some (mj_u (mj_u (mj_u (mj_u M 45 H (M 5 7)) 46 H (M 5 8)) 47 H (M 5 9)) 41 1 (nI (H + 1))) := by
  unfold F_CoastReader_keepTale
  simp only [mj_lt]
  rw [hH, nw_ck h6 (by omega), nw_ck h6 (by omega), nw_ck h6 (by omega), nI_clamp (by omega)]
  simp (disch := omega) only [nw_u9]
  rw [hH, nI_1]
/-- both readers at a clause of a coast -/
def mk_gq (N : Nat) (τ : Nat → Nat) (z : Nat) (K : mk_S) (p : Nat) : Prop :=
  (∃ K' p1 p2, p + 1 ≤ p1 ∧ p1 ≤ z ∧ p2 ≤ z ∧ mk_sq τ z p1 = mk_sq τ z p2 ∧ mk_kw K' ∧ (∀ B M, mk_kx τ z B K p M → ∃ M', F_CoastReader_readClause N M = some M' ∧ mk_kx τ z B K' p1 M') ∧ (∀ C M n, mk_km τ z C K p M → ∃ M', F_M_readCoast_b49 N (n + 1) (nI (K 4 3)) (1 : Int32) M = F_M_readCoast_b214 N (F_M_readCoast_b49 N n) (nI (K' 4 3)) M' ∧ mk_km τ z C K' p2 M'))
  ∨ (∃ w, w ≤ z ∧ (∀ B M, mk_kx τ z B K p M → ∃ M', F_CoastReader_readClause N M = some M' ∧ mk_kxf z B w M') ∧ (∀ C M n, mk_km τ z C K p M → ∃ M' x, F_M_readCoast_b49 N (n + 1) (nI (K 4 3)) (1 : Int32) M = F_M_readCoast_b214 N (F_M_readCoast_b49 N n) x M' ∧ mk_kmf C w M'))
theorem mk_Kc_s (hN : 1000 ≤ N) (hz : mk_tp τ z) (hp : p ≤ z) (hK : mk_kw K) (hc : mk_ch τ z p = 115) (hr : K 4 3 = 0) : mk_gq N τ z K p := by
  have hz2 := hz.1
  have hs := mk_sq_in τ z p
  have hc0 := mk_c0_0 hz (mk_sq τ z p)
  have hlt : mk_sq τ z p < z := by unfold mk_ch at hc; omega
  have e10 : ¬ (1 : Int32) = 0 := by decide +kernel
  have eX : ∀ B M, mk_kx τ z B K p M → F_CoastReader_readClause N M = (F_CoastReader_readItems N (0 : Int32) (4 : Int32) (mj_u (mj_u M 2 2 (nI (mk_sq τ z p))) 4 3 (nI 1))).bind (fun q5 => F_CoastReader_keepRules q5) := by
    intro B M h
    rw [F_CoastReader_readClause, h.1.pk hN, mk_bs]
    dsimp only
    have e43 : mj_u M 2 2 (nI (mk_sq τ z p)) 4 3 = (0 : Int32) := by rw [nw_u9 _ (by omega), h.2.1, hr]; rfl
    rw [hc, if_pos (show nI 115 = (115 : Int32) from rfl), if_pos e43]
    simp only [mj_lt, mk_bid]
    rfl
  have eM : ∀ C M n, mk_km τ z C K p M → F_M_readCoast_b49 N (n + 1) (nI (K 4 3)) (1 : Int32) M = (F_M_items_c59 N (nI 115) (nI 0) (4 : Int32) (mj_u M 48 3 (nI (mk_sq τ z p + 1)))).bind (fun q14 => F_M_readCoast_b214 N (F_M_readCoast_b49 N n) (1 : Int32) q14) := by
    intro C M n h
    rw [F_M_readCoast_b49, if_neg e10, if_pos h.1.ok, h.1.pk hN, mk_bs]
    dsimp only
    rw [hc, mk_mcn (by omega), if_pos (show nI 115 = (115 : Int32) from rfl), hr, if_pos (show nI 0 = (0 : Int32) from rfl)]
    simp only [mj_lt]
    rw [mj_u_eq, mj_up_eq, nI_1, mj_uu]
    rfl
  rcases mk_Ard_0 (p := mk_sq τ z p) hN hz (b := 0) (by omega) hlt with ⟨I, p1, p2, a1, a2, a3, a4, a5, a6, a7⟩ | ⟨w, a1, a2, a3⟩
  · refine Or.inl ⟨mk_Ks K I, p1, p2, by omega, a2, a3, a4, mk_kws hK a5, fun B M h => ?_, fun C M n h => ?_⟩
    · obtain ⟨M1, x1, x2, x3, x4⟩ := a6 _ ((h.1.at (p' := mk_sq τ z p) (by omega)).u (c := 4) (k := 3) (x := nI 1) (by omega))
      refine ⟨_, by rw [eX B M h, x1, mk_bs, mk_keR], ((((x2.u (by omega)).u (by omega)).u (by omega)).u (by omega)), ?_, ?_, ((((((h.2.2.2.u (by omega)).u (by omega)).f x4).u (by omega)).u (by omega)).u (by omega)).u (by omega)⟩
      · simp (disch := omega) only [nw_u9]
        rw [x4 4 (by omega) (by omega), mj_u_eq, mj_up_eq, mk_Ks4, mj_up_eq]
      · obtain ⟨d1, d2, d3, d4, d5⟩ := h.2.2.1
        have f : ∀ c, c ≠ 2 → c ≠ 5 → c ≠ 4 → M1 c = M c := fun c h1 h2 h3 => by rw [x4 c h1 h2, nw_u9 _ h3, nw_u9 _ h1]
        unfold mk_kdx
        rw [mk_Ks59, mk_Ksn (c := 48) (by omega) (by omega), mk_Ksn (c := 60) (by omega) (by omega), mk_Ksn (c := 61) (by omega) (by omega)]
        simp (disch := omega) only [nw_u9, mj_u_eq, mj_up_ne, f]
        refine ⟨d1, d2, fun k hk => ?_, d4, d5⟩
        have y0 := x3 0 (by omega)
        have y1 := x3 1 (by omega)
        have y2 := x3 2 (by omega)
        have y3 := x3 3 (by omega)
        rcases (show k = 0 ∨ k = 1 ∨ k = 2 ∨ k = 3 by omega) with rfl | rfl | rfl | rfl
        · simp (disch := omega) only [mj_up_ne, mj_up_eq, Nat.reduceAdd]
          exact y0
        · simp (disch := omega) only [mj_up_ne, mj_up_eq, Nat.reduceAdd]
          exact y1
        · simp (disch := omega) only [mj_up_ne, mj_up_eq, Nat.reduceAdd]
          exact y2
        · simp (disch := omega) only [mj_up_ne, mj_up_eq, Nat.reduceAdd]
          exact y3
    · obtain ⟨M1, x1, x2, x3, x4⟩ := a7 _ (h.1.at (p' := mk_sq τ z p + 1) (by omega))
      refine ⟨M1, ?_, x2, ?_, (h.2.2.u (by omega)).f x4 (by omega)⟩
      · rw [eM C M n h, x1, mk_bs, mk_Ks4, mj_up_eq]
        rfl
      · obtain ⟨d1, d2, d3, d4, d5⟩ := h.2.1
        have f : ∀ c k, c = 60 ∨ c = 61 ∨ c = 48 ∧ (k = 20 ∨ k = 21) → M1 c k = M c k := fun c k hk => by
          rw [x4 c k (by omega)]
          by_cases e : c = 48
          · subst e; rw [mj_u_eq, mj_up_ne _ _ _ (by omega)]
          · rw [nw_u9 _ e]
        unfold mk_kdm
        rw [mk_Ks59, mk_Ksn (c := 48) (by omega) (by omega), mk_Ksn (c := 60) (by omega) (by omega), mk_Ksn (c := 61) (by omega) (by omega)]
        refine ⟨(f _ _ (by omega)).trans d1, (f _ _ (by omega)).trans d2, fun k hk => ?_, fun k hk => (f _ _ (by omega)).trans (d4 k hk), fun k hk => (f _ _ (by omega)).trans (d5 k hk)⟩
        have t := x3 k hk
        rw [Nat.zero_add] at t
        exact t
  · refine Or.inr ⟨w, a1, fun B M h => ?_, fun C M n h => ?_⟩
    · obtain ⟨M1, x1, x2, x3, x4⟩ := a2 _ ((h.1.at (p' := mk_sq τ z p) (by omega)).u (c := 4) (k := 3) (x := nI 1) (by omega))
      refine ⟨_, by rw [eX B M h, x1, mk_bs, mk_keR], ?_, by omega, ?_, ((((((h.2.2.2.u (by omega)).u (by omega)).f x4).u (by omega)).u (by omega)).u (by omega)).u (by omega)⟩
      · simp (disch := omega) only [nw_u9]
        exact x2
      · simp (disch := omega) only [nw_u9]
        exact x3
    · obtain ⟨M1, x1, x2, x3⟩ := a3 _ (h.1.at (p' := mk_sq τ z p + 1) (by omega))
      exact ⟨M1, 1, by rw [eM C M n h, x1, mk_bs], x2, by omega, (h.2.2.u (by omega)).f x3 (by omega)⟩
theorem mk_Kc_h (hN : 1000 ≤ N) (hz : mk_tp τ z) (hp : p ≤ z) (hK : mk_kw K) (hc : mk_ch τ z p = 104) (hr : K 48 20 < 6) : mk_gq N τ z K p := by
  have hz2 := hz.1
  have hs := mk_sq_in τ z p
  have hc0 := mk_c0_0 hz (mk_sq τ z p)
  have hlt : mk_sq τ z p < z := by unfold mk_ch at hc; omega
  have e10 : ¬ (1 : Int32) = 0 := by decide +kernel
  have eX : ∀ B M, mk_kx τ z B K p M → F_CoastReader_readClause N M = (F_CoastReader_readItems N (4 : Int32) (7 : Int32) (mj_u M 2 2 (nI (mk_sq τ z p)))).bind (fun q5 => F_CoastReader_keepHouse q5) := by
    intro B M h
    rw [F_CoastReader_readClause, h.1.pk hN, mk_bs]
    dsimp only
    rw [hc, if_neg (show ¬ nI 104 = (115 : Int32) by decide +kernel), F_CoastReader_readClause_b39, if_pos (show nI 104 = (104 : Int32) from rfl), nw_u9 _ (by omega), h.2.2.1.1, nl_6, if_neg (nI_ge hr (by omega))]
    simp only [mk_bid]
  have eM : ∀ C M n, mk_km τ z C K p M → F_M_readCoast_b49 N (n + 1) (nI (K 4 3)) (1 : Int32) M = (F_M_items_c60 N (nI 104) (nI (3 * K 48 20)) (3 : Int32) (mj_u M 48 3 (nI (mk_sq τ z p + 1)))).bind (fun q24 => F_M_readCoast_b214 N (F_M_readCoast_b49 N n) (nI (K 4 3)) (mj_u q24 48 20 ((q24 48 20) + (1 : Int32)))) := by
    intro C M n h
    rw [F_M_readCoast_b49, if_neg e10, if_pos h.1.ok, h.1.pk hN, mk_bs]
    dsimp only
    rw [hc, mk_mcn (by omega), if_neg (show ¬ nI 104 = (115 : Int32) by decide +kernel), F_M_readCoast_b102, if_pos (show nI 104 = (104 : Int32) from rfl), mj_u_eq, mj_up_ne _ _ _ (by omega), h.2.1.1, nl_6, if_neg (nI_ge hr (by omega))]
    simp only [mj_lt]
    rw [mj_up_eq, nI_1, mj_uu, mj_u_eq, mj_up_ne _ _ _ (by omega), h.2.1.1, nl_3, pk_mul]
  rcases mk_Ard_4 (p := mk_sq τ z p) hN hz (b := 3 * K 48 20) (by omega) hlt with ⟨I, p1, p2, a1, a2, a3, a4, a5, a6, a7⟩ | ⟨w, a1, a2, a3⟩
  · refine Or.inl ⟨mk_Kh K I, p1, p2, by omega, a2, a3, a4, mk_kwh hK a5 hr, fun B M h => ?_, fun C M n h => ?_⟩
    · obtain ⟨M1, x1, x2, x3, x4⟩ := a6 _ (h.1.at (p' := mk_sq τ z p) (by omega))
      obtain ⟨d1, d2, d3, d4, d5⟩ := h.2.2.1
      have f : ∀ c, c ≠ 2 → c ≠ 5 → M1 c = M c := fun c h1 h2 => by rw [x4 c h1 h2, nw_u9 _ h1]
      refine ⟨_, by rw [eX B M h, x1, mk_bs, mk_keH (by rw [f 41 (by omega) (by omega)]; exact d1) hr], ((((x2.u (by omega)).u (by omega)).u (by omega)).u (by omega)), ?_, ?_, (((((h.2.2.2.u (by omega)).f x4).u (by omega)).u (by omega)).u (by omega)).u (by omega)⟩
      · simp (disch := omega) only [nw_u9]
        rw [f 4 (by omega) (by omega), mk_Khn (by omega) (by omega)]
        exact h.2.1
      · unfold mk_kdx
        rw [mk_Kh48, mk_Khn (c := 59) (by omega) (by omega), mk_Khn (c := 61) (by omega) (by omega)]
        simp (disch := omega) only [nw_u9, mj_u_eq, mj_up_ne, mj_up_eq, f]
        refine ⟨trivial, d2, d3, fun j hj => ?_, d5⟩
        by_cases e : j = K 48 20
        · have y0 := x3 0 (by omega)
          have y1 := x3 1 (by omega)
          have y2 := x3 2 (by omega)
          have k0 := mk_Kh60n (K := K) (I := I) 0
          rw [Nat.add_zero] at k0
          rw [e, mj_up_eq, mj_up_eq, mj_up_eq, k0, mk_Kh60n, mk_Kh60n]
          exact ⟨y0, y1, y2⟩
        · rw [mj_up_ne _ _ _ e, mj_up_ne _ _ _ e, mj_up_ne _ _ _ e, mk_Kh60o (by omega), mk_Kh60o (by omega), mk_Kh60o (by omega)]
          exact d4 j (by omega)
    · obtain ⟨M1, x1, x2, x3, x4⟩ := a7 _ (h.1.at (p' := mk_sq τ z p + 1) (by omega))
      obtain ⟨d1, d2, d3, d4, d5⟩ := h.2.1
      have f : ∀ c k, c = 59 ∨ c = 61 ∨ c = 48 ∧ (k = 20 ∨ k = 21) ∨ c = 60 ∧ k < 3 * K 48 20 → M1 c k = M c k := fun c k hk => by
        rw [x4 c k (by omega)]
        by_cases e : c = 48
        · subst e; rw [mj_u_eq, mj_up_ne _ _ _ (by omega)]
        · rw [nw_u9 _ e]
      have e20 : M1 48 20 = nI (K 48 20) := (f _ _ (by omega)).trans d1
      refine ⟨mj_u M1 48 20 (nI (K 48 20 + 1)), ?_, ⟨x2.1.u (by omega), x2.2.1, by rw [mj_u_eq, mj_up_ne _ _ _ (by omega)]; exact x2.2.2.1, by rw [mj_u_eq, mj_up_ne _ _ _ (by omega)]; exact x2.2.2.2⟩, ?_, ((h.2.2.u (by omega)).f x4 (by omega)).u (by omega)⟩
      · rw [eM C M n h, x1, mk_bs, e20, nI_1, mk_Khn (by omega) (by omega)]
      · unfold mk_kdm
        rw [mk_Kh48, mk_Khn (c := 59) (by omega) (by omega), mk_Khn (c := 61) (by omega) (by omega)]
        simp (disch := omega) only [nw_u9, mj_u_eq, mj_up_ne, mj_up_eq]
        refine ⟨trivial, (f _ _ (by omega)).trans d2, fun k hk => (f _ _ (by omega)).trans (d3 k hk), fun k hk => ?_, fun k hk => (f _ _ (by omega)).trans (d5 k hk)⟩
        by_cases e : k < 3 * K 48 20
        · rw [mk_Kh60o e]
          exact (f _ _ (by omega)).trans (d4 k e)
        · obtain ⟨j, rfl⟩ : ∃ j, k = 3 * K 48 20 + j := ⟨k - 3 * K 48 20, by omega⟩
          rw [mk_Kh60n]
          exact x3 j (by omega)
  · refine Or.inr ⟨w, a1, fun B M h => ?_, fun C M n h => ?_⟩
    · obtain ⟨M1, x1, x2, x3, x4⟩ := a2 _ (h.1.at (p' := mk_sq τ z p) (by omega))
      refine ⟨_, by rw [eX B M h, x1, mk_bs, mk_keH (by rw [x4 41 (by omega) (by omega), nw_u9 _ (by omega)]; exact h.2.2.1.1) hr], ?_, by omega, ?_, (((((h.2.2.2.u (by omega)).f x4).u (by omega)).u (by omega)).u (by omega)).u (by omega)⟩
      · simp (disch := omega) only [nw_u9]
        exact x2
      · simp (disch := omega) only [nw_u9]
        exact x3
    · obtain ⟨M1, x1, x2, x3⟩ := a3 _ (h.1.at (p' := mk_sq τ z p + 1) (by omega))
      exact ⟨_, _, by rw [eM C M n h, x1, mk_bs], by rw [mj_u_eq, mj_up_ne _ _ _ (by omega)]; exact x2, by omega, ((h.2.2.u (by omega)).f x3 (by omega)).u (by omega)⟩
theorem mk_Kc_t (hN : 1000 ≤ N) (hz : mk_tp τ z) (hp : p ≤ z) (hK : mk_kw K) (hc : mk_ch τ z p = 116) (hr : K 48 21 < 6) : mk_gq N τ z K p := by
  have hz2 := hz.1
  have hs := mk_sq_in τ z p
  have hc0 := mk_c0_0 hz (mk_sq τ z p)
  have hlt : mk_sq τ z p < z := by unfold mk_ch at hc; omega
  have e10 : ¬ (1 : Int32) = 0 := by decide +kernel
  have eX : ∀ B M, mk_kx τ z B K p M → F_CoastReader_readClause N M = (F_CoastReader_readItems N (7 : Int32) (10 : Int32) (mj_u M 2 2 (nI (mk_sq τ z p)))).bind (fun q5 => F_CoastReader_keepTale q5) := by
    intro B M h
    rw [F_CoastReader_readClause, h.1.pk hN, mk_bs]
    dsimp only
    rw [hc, if_neg (show ¬ nI 116 = (115 : Int32) by decide +kernel), F_CoastReader_readClause_b39, if_neg (show ¬ nI 116 = (104 : Int32) by decide +kernel), F_CoastReader_readClause_b71, if_pos (show nI 116 = (116 : Int32) from rfl), nw_u9 _ (by omega), h.2.2.1.2.1, nl_6, if_neg (nI_ge hr (by omega))]
    simp only [mk_bid]
  have eM : ∀ C M n, mk_km τ z C K p M → F_M_readCoast_b49 N (n + 1) (nI (K 4 3)) (1 : Int32) M = (F_M_items_c61 N (nI 116) (nI (3 * K 48 21)) (3 : Int32) (mj_u M 48 3 (nI (mk_sq τ z p + 1)))).bind (fun q24 => F_M_readCoast_b214 N (F_M_readCoast_b49 N n) (nI (K 4 3)) (mj_u q24 48 21 ((q24 48 21) + (1 : Int32)))) := by
    intro C M n h
    rw [F_M_readCoast_b49, if_neg e10, if_pos h.1.ok, h.1.pk hN, mk_bs]
    dsimp only
    rw [hc, mk_mcn (by omega), if_neg (show ¬ nI 116 = (115 : Int32) by decide +kernel), F_M_readCoast_b102, if_neg (show ¬ nI 116 = (104 : Int32) by decide +kernel), F_M_readCoast_b156, if_pos (show nI 116 = (116 : Int32) from rfl), mj_u_eq, mj_up_ne _ _ _ (by omega), h.2.1.2.1, nl_6, if_neg (nI_ge hr (by omega))]
    simp only [mj_lt]
    rw [mj_up_eq, nI_1, mj_uu, mj_u_eq, mj_up_ne _ _ _ (by omega), h.2.1.2.1, nl_3, pk_mul]
  rcases mk_Ard_7 (p := mk_sq τ z p) hN hz (b := 3 * K 48 21) (by omega) hlt with ⟨I, p1, p2, a1, a2, a3, a4, a5, a6, a7⟩ | ⟨w, a1, a2, a3⟩
  · refine Or.inl ⟨mk_Kt K I, p1, p2, by omega, a2, a3, a4, mk_kwt hK a5 hr, fun B M h => ?_, fun C M n h => ?_⟩
    · obtain ⟨M1, x1, x2, x3, x4⟩ := a6 _ (h.1.at (p' := mk_sq τ z p) (by omega))
      obtain ⟨d1, d2, d3, d4, d5⟩ := h.2.2.1
      have f : ∀ c, c ≠ 2 → c ≠ 5 → M1 c = M c := fun c h1 h2 => by rw [x4 c h1 h2, nw_u9 _ h1]
      refine ⟨_, by rw [eX B M h, x1, mk_bs, mk_keT (by rw [f 41 (by omega) (by omega)]; exact d2) hr], ((((x2.u (by omega)).u (by omega)).u (by omega)).u (by omega)), ?_, ?_, (((((h.2.2.2.u (by omega)).f x4).u (by omega)).u (by omega)).u (by omega)).u (by omega)⟩
      · simp (disch := omega) only [nw_u9]
        rw [f 4 (by omega) (by omega), mk_Ktn (by omega) (by omega)]
        exact h.2.1
      · unfold mk_kdx
        rw [mk_Kt48, mk_Ktn (c := 59) (by omega) (by omega), mk_Ktn (c := 60) (by omega) (by omega)]
        simp (disch := omega) only [nw_u9, mj_u_eq, mj_up_ne, mj_up_eq, f]
        refine ⟨d1, trivial, d3, d4, fun j hj => ?_⟩
        by_cases e : j = K 48 21
        · have y0 := x3 0 (by omega)
          have y1 := x3 1 (by omega)
          have y2 := x3 2 (by omega)
          have k0 := mk_Kt61n (K := K) (I := I) 0
          rw [Nat.add_zero] at k0
          rw [e, mj_up_eq, mj_up_eq, mj_up_eq, k0, mk_Kt61n, mk_Kt61n]
          exact ⟨y0, y1, y2⟩
        · rw [mj_up_ne _ _ _ e, mj_up_ne _ _ _ e, mj_up_ne _ _ _ e, mk_Kt61o (by omega), mk_Kt61o (by omega), mk_Kt61o (by omega)]
          exact d5 j (by omega)
    · obtain ⟨M1, x1, x2, x3, x4⟩ := a7 _ (h.1.at (p' := mk_sq τ z p + 1) (by omega))
      obtain ⟨d1, d2, d3, d4, d5⟩ := h.2.1
      have f : ∀ c k, c = 59 ∨ c = 60 ∨ c = 48 ∧ (k = 20 ∨ k = 21) ∨ c = 61 ∧ k < 3 * K 48 21 → M1 c k = M c k := fun c k hk => by
        rw [x4 c k (by omega)]
        by_cases e : c = 48
        · subst e; rw [mj_u_eq, mj_up_ne _ _ _ (by omega)]
        · rw [nw_u9 _ e]
      have e20 : M1 48 21 = nI (K 48 21) := (f _ _ (by omega)).trans d2
      refine ⟨mj_u M1 48 21 (nI (K 48 21 + 1)), ?_, ⟨x2.1.u (by omega), x2.2.1, by rw [mj_u_eq, mj_up_ne _ _ _ (by omega)]; exact x2.2.2.1, by rw [mj_u_eq, mj_up_ne _ _ _ (by omega)]; exact x2.2.2.2⟩, ?_, ((h.2.2.u (by omega)).f x4 (by omega)).u (by omega)⟩
      · rw [eM C M n h, x1, mk_bs, e20, nI_1, mk_Ktn (by omega) (by omega)]
      · unfold mk_kdm
        rw [mk_Kt48, mk_Ktn (c := 59) (by omega) (by omega), mk_Ktn (c := 60) (by omega) (by omega)]
        simp (disch := omega) only [nw_u9, mj_u_eq, mj_up_ne, mj_up_eq]
        refine ⟨(f _ _ (by omega)).trans d1, trivial, fun k hk => (f _ _ (by omega)).trans (d3 k hk), fun k hk => (f _ _ (by omega)).trans (d4 k hk), fun k hk => ?_⟩
        by_cases e : k < 3 * K 48 21
        · rw [mk_Kt61o e]
          exact (f _ _ (by omega)).trans (d5 k e)
        · obtain ⟨j, rfl⟩ : ∃ j, k = 3 * K 48 21 + j := ⟨k - 3 * K 48 21, by omega⟩
          rw [mk_Kt61n]
          exact x3 j (by omega)
  · refine Or.inr ⟨w, a1, fun B M h => ?_, fun C M n h => ?_⟩
    · obtain ⟨M1, x1, x2, x3, x4⟩ := a2 _ (h.1.at (p' := mk_sq τ z p) (by omega))
      refine ⟨_, by rw [eX B M h, x1, mk_bs, mk_keT (by rw [x4 41 (by omega) (by omega), nw_u9 _ (by omega)]; exact h.2.2.1.2.1) hr], ?_, by omega, ?_, (((((h.2.2.2.u (by omega)).f x4).u (by omega)).u (by omega)).u (by omega)).u (by omega)⟩
      · simp (disch := omega) only [nw_u9]
        exact x2
      · simp (disch := omega) only [nw_u9]
        exact x3
    · obtain ⟨M1, x1, x2, x3⟩ := a3 _ (h.1.at (p' := mk_sq τ z p + 1) (by omega))
      exact ⟨_, _, by rw [eM C M n h, x1, mk_bs], by rw [mj_u_eq, mj_up_ne _ _ _ (by omega)]; exact x2, by omega, ((h.2.2.u (by omega)).f x3 (by omega)).u (by omega)⟩
end Coast
