/-! ===== the pure side: a coast taken, the written side ===== -/
def mk_n65 (K : mk_S) : Nat → Nat := fun k =>
  if k < 36 then (if k / 6 < K 48 20 ∧ k % 6 < K 48 21 then nw_b (K 60 (3 * (k / 6))) (k % 6) else 0)
  else if k < 42 then (if k - 36 < K 48 21 then K 61 (3 * (k - 36) + 1) else 0)
  else if k = 42 then K 59 2 else if k = 43 then K 59 1 % 2 ^ K 48 21 else if k = 44 then K 59 0 else 0
def mk_nc (S K : mk_S) : mk_S := fun c =>
  if c = 48 then va_up (va_up (va_up (va_up (va_up (va_up (S 48) 2 0) 25 (K 48 20)) 26 (K 48 21)) 32 0) 40 0) 44 0
  else if c = 62 then K 59 else if c = 63 then K 60 else if c = 64 then K 61 else if c = 65 then mk_n65 K else S c
theorem mk_own : ∀ o, o < 64 → ∀ T, T < 7 → nI o &&& (((1 : Int32) <<< (nI T &&& 31)) - (1 : Int32)) = nI (o % 2 ^ T) := by decide +kernel
section Take
variable {N : Nat} {S K : mk_S} {A : mk_L} {M M' : mj_M}
theorem mk_nc48 : mk_nc S K 48 = va_up (va_up (va_up (va_up (va_up (va_up (S 48) 2 0) 25 (K 48 20)) 26 (K 48 21)) 32 0) 40 0) 44 0 := if_pos rfl
theorem mk_nc62 : mk_nc S K 62 = K 59 := by unfold mk_nc; rw [if_neg (by omega), if_pos rfl]
theorem mk_nc63 : mk_nc S K 63 = K 60 := by unfold mk_nc; rw [if_neg (by omega), if_neg (by omega), if_pos rfl]
theorem mk_nc64 : mk_nc S K 64 = K 61 := by unfold mk_nc; rw [if_neg (by omega), if_neg (by omega), if_neg (by omega), if_pos rfl]
theorem mk_nc65 : mk_nc S K 65 = mk_n65 K := by unfold mk_nc; rw [if_neg (by omega), if_neg (by omega), if_neg (by omega), if_neg (by omega), if_pos rfl]
theorem mk_nco {c : Nat} (h : c ≠ 48 ∧ c ≠ 62 ∧ c ≠ 63 ∧ c ≠ 64 ∧ c ≠ 65) : mk_nc S K c = S c := by unfold mk_nc; rw [if_neg (by omega), if_neg (by omega), if_neg (by omega), if_neg (by omega), if_neg (by omega)]
theorem mk_n65b {h t : Nat} (hh : h < K 48 20) (ht : t < K 48 21) (h6 : K 48 20 ≤ 6) (t6 : K 48 21 ≤ 6) : mk_n65 K (h * 6 + t) = nw_b (K 60 (3 * h)) t := by
  unfold mk_n65
  rw [if_pos (by omega), show (h * 6 + t) / 6 = h by omega, show (h * 6 + t) % 6 = t by omega, if_pos ⟨hh, ht⟩]
theorem mk_n65z {k : Nat} (hk : k < 36) (h : ¬ (k / 6 < K 48 20 ∧ k % 6 < K 48 21)) : mk_n65 K k = 0 := by
  unfold mk_n65
  rw [if_pos hk, if_neg h]
theorem mk_n65k {t : Nat} (ht : t < K 48 21) (t6 : K 48 21 ≤ 6) : mk_n65 K (36 + t) = K 61 (3 * t + 1) := by
  unfold mk_n65
  rw [if_neg (by omega), if_pos (by omega), show 36 + t - 36 = t by omega, if_pos ht]
theorem mk_n65y {t : Nat} (ht : ¬ t < K 48 21) (t6 : t < 6) : mk_n65 K (36 + t) = 0 := by
  unfold mk_n65
  rw [if_neg (by omega), if_pos (by omega), show 36 + t - 36 = t by omega, if_neg ht]
theorem mk_n65o {k : Nat} (hk : 45 ≤ k) : mk_n65 K k = 0 := by
  unfold mk_n65
  rw [if_neg (by omega), if_neg (by omega), if_neg (by omega), if_neg (by omega), if_neg (by omega)]
theorem mk_Wnc (hw : mk_W S A) (hK : mk_kw K) (h2 : 2 ≤ K 48 20) (h1 : 1 ≤ K 48 21) (ha : K 59 2 < K 48 20) : mk_W (mk_nc S K) A := by
  obtain ⟨h6, t6, _, hr, hh, ht⟩ := hK
  have r0 : K 59 0 ≤ 99 := (hr 0 (by omega)).2
  have r3 : K 59 3 ≤ 9 := (hr 3 (by omega)).2
  have hho : ∀ h, h < K 48 20 → K 60 (3 * h) < 64 ∧ K 60 (3 * h + 1) ≤ 9 ∧ K 60 (3 * h + 2) ≤ 9 := fun h hlt => by
    have e0 : K 60 (3 * h + 0) ≤ 63 := (hh h hlt 0 (by omega)).2
    have e1 : K 60 (3 * h + 1) ≤ 9 := (hh h hlt 1 (by omega)).2
    have e2 : K 60 (3 * h + 2) ≤ 9 := (hh h hlt 2 (by omega)).2
    rw [Nat.add_zero] at e0
    omega
  have hta : ∀ t, t < K 48 21 → 1 ≤ K 61 (3 * t) ∧ K 61 (3 * t) ≤ 9 ∧ K 61 (3 * t + 1) ≤ 9 ∧ K 61 (3 * t + 2) ≤ 1 := fun t hlt => by
    have f0 : 1 ≤ K 61 (3 * t + 0) := (ht t hlt 0 (by omega)).1
    have e0 : K 61 (3 * t + 0) ≤ 9 := (ht t hlt 0 (by omega)).2
    have e1 : K 61 (3 * t + 1) ≤ 9 := (ht t hlt 1 (by omega)).2
    have e2 : K 61 (3 * t + 2) ≤ 1 := (ht t hlt 2 (by omega)).2
    rw [Nat.add_zero] at e0 f0
    omega
  have n42 : mk_n65 K 42 = K 59 2 := rfl
  have n43 : mk_n65 K 43 = K 59 1 % 2 ^ K 48 21 := rfl
  have n44 : mk_n65 K 44 = K 59 0 := rfl
  have n45 : mk_n65 K 45 = 0 := rfl
  have n48 : mk_n65 K 48 = 0 := rfl
  have n229 : mk_n65 K 229 = 0 := rfl
  have wn : mk_wn (K 48 20) (K 48 21) (mk_n65 K) := by
    refine ⟨fun _ => by rw [n42]; exact ha, by rw [n42]; omega, by rw [n43]; exact Nat.mod_lt _ (Nat.two_pow_pos _), by rw [n44]; omega, by rw [n45]; omega, Nat.le_refl _, Nat.le_refl _, by rw [n229]; omega, by rw [n48, n229]; rfl, fun t ht => by rw [mk_n65k ht t6]; exact (hta t ht).2.2.1, fun k hk => ?_, fun h t hh6 ht6 hor => mk_n65z (by omega) (by omega), fun i hi => by rw [n48] at hi; omega⟩
    by_cases c : k / 6 < K 48 20 ∧ k % 6 < K 48 21
    · rw [show k = k / 6 * 6 + k % 6 by omega, mk_n65b c.1 c.2 h6 t6]
      have := nw_b2 (K 60 (3 * (k / 6))) (k % 6)
      omega
    · rw [mk_n65z hk c]; omega
  unfold mk_W
  simp (disch := omega) only [mk_nc48, mk_nc62, mk_nc63, mk_nc64, mk_nc65, mk_nco, mj_up_eq, mj_up_ne]
  exact ⟨h6, t6, Or.inr ⟨h2, h1⟩, Nat.zero_le _, fun k hk => absurd hk (Nat.not_lt_zero _), hw.laws, hw.hold, hw.why, Nat.zero_le _, Nat.zero_le _, Nat.zero_le _, hw.next, r3, hho, hta, wn, fun j hj => absurd hj (Nat.not_lt_zero _), fun h => absurd h (Nat.lt_irrefl _), fun h => absurd h (by decide), fun j hj => absurd hj (Nat.not_lt_zero _), hw.wl, fun j hj => absurd hj (Nat.not_lt_zero _)⟩
theorem mk_bec (M : mj_M) : ∃ M', F_Coast_become_c41 M = some M' ∧ (∀ k, k < 6 → M' 13 k = M 41 k) ∧ (∀ k, k < 6 → M' 14 k = M 42 k ∧ M' 15 k = M 43 k ∧ M' 16 k = M 44 k ∧ M' 17 k = M 45 k ∧ M' 18 k = M 46 k ∧ M' 19 k = M 47 k) ∧ (∀ c, ¬ (13 ≤ c ∧ c ≤ 19) → M' c = M c) := by
  have ac : ∀ {R : Type} (o : Option R), mj_ac (0 : Int32) (0 : Int32) (6 : Int32) 6 6 o = o := fun o => nw_ac (a := 0) (b := 0) (c := 6) (by omega) (by omega) (by omega) (by omega)
  have z0 : (0 : Int32).toNatClampNeg = 0 := by decide +kernel
  have z6 : (6 : Int32).toNatClampNeg = 6 := by decide +kernel
  have cp : ∀ (f g : Nat → Int32) k, k < 6 → va_cpy f g 0 0 6 k = f k := fun f g k hk => by
    unfold va_cpy
    rw [if_pos (by omega), show 0 + (k - 0) = k by omega]
  unfold F_Coast_become_c41
  simp (disch := omega) only [mj_lt, ac, z0, z6, nw_u9, nw_a9]
  refine ⟨_, rfl, fun k hk => ?_, fun k hk => ?_, fun c hc => ?_⟩
  · simp (disch := omega) only [nw_a9, mj_u_eq]
    rcases (show k = 0 ∨ k = 1 ∨ k = 2 ∨ k = 3 ∨ k = 4 ∨ k = 5 by omega) with rfl | rfl | rfl | rfl | rfl | rfl
    all_goals simp (disch := omega) only [mj_up_eq, mj_up_ne]
  · simp (disch := omega) only [nw_a9, nw_ae]
    exact ⟨cp _ _ k hk, cp _ _ k hk, cp _ _ k hk, cp _ _ k hk, cp _ _ k hk, cp _ _ k hk⟩
  · simp (disch := omega) only [nw_a9, nw_u9]
theorem mk_fill (hN : 1000 ≤ N) (M : mj_M) : ∃ M', F_Arrays_fill_c22 N (0 : Int32) M = some M' ∧ (∀ k, k < 36 → M' 22 k = nI 0) ∧ (∀ c, c ≠ 22 → M' c = M c) := by
  obtain ⟨M', p, q⟩ := mk_lp (L := fun n (_ : Unit) i M => F_Arrays_fill_c22_b5 N n (0 : Int32) (nI i) (36 : Int32) M) 36 (fun _ s => s) (fun i _ M1 => (∀ c, c ≠ 22 → M1 c = M c) ∧ ∀ k, k < i → M1 22 k = nI 0) (fun _ M => some M)
    (fun n s M1 p => by rw [F_Arrays_fill_c22_b5, nl_36, if_pos (Int32.le_refl _)])
    (fun n s i M1 hi p => by
      obtain ⟨p1, p2⟩ := p
      refine ⟨mj_u M1 22 i (nI 0), ⟨fun c hc => by rw [nw_u9 _ hc]; exact p1 c hc, fun k hk => ?_⟩, ?_⟩
      · rw [mj_u_eq]
        by_cases e : k = i
        · rw [e, mj_up_eq]
        · rw [mj_up_ne _ _ _ e]; exact p2 k (by omega)
      · rw [F_Arrays_fill_c22_b5, nl_36, if_neg (nI_ge hi (by omega)), nw_ck hi (by omega), nI_clamp (by omega), nI_1]
        rfl)
    36 0 N () M (by omega) (by omega) ⟨fun _ _ => rfl, fun k hk => absurd hk (Nat.not_lt_zero _)⟩
  exact ⟨M', q, p.2, p.1⟩
/-- which tales are known where: rows done, and of the next the first tales -/
def mk_dn (K : mk_S) (h t k : Nat) : Nat := if k / 6 < h ∨ k / 6 = h ∧ k % 6 < t then mk_n65 K k else 0
theorem mk_beg74 (hN : 1000 ≤ N) (h6 : K 48 20 ≤ 6) (t6 : K 48 21 ≤ 6) (hk : ∀ h, h < K 48 20 → K 60 (3 * h) < 64) {M0 : mj_M} (e0 : M0 13 0 = nI (K 48 20)) (e1 : M0 13 1 = nI (K 48 21)) (e14 : ∀ h, h < K 48 20 → M0 14 h = nI (K 60 (3 * h))) (ez : ∀ k, k < 36 → M0 22 k = nI 0) : ∃ M', F_Stand_begin_c13_b74 N N (0 : Int32) M0 = some M' ∧ (∀ k, k < 36 → M' 22 k = nI (mk_n65 K k)) ∧ (∀ c, c ≠ 22 → M' c = M0 c) := by
  have inner : ∀ (k74 : Int32 → mj_M → Option mj_M) h M, h < K 48 20 → ((∀ c, c ≠ 22 → M c = M0 c) ∧ ∀ k, k < 36 → M 22 k = nI (mk_dn K h 0 k)) → ∃ M', ((∀ c, c ≠ 22 → M' c = M0 c) ∧ ∀ k, k < 36 → M' 22 k = nI (mk_dn K (h + 1) 0 k)) ∧ F_Stand_begin_c13_b84 N k74 N (nI h) (0 : Int32) M = k74 (nI (h + 1)) M' := by
    intro k74 h M hh hM
    obtain ⟨M', p, q⟩ := mk_lp (L := fun n (_ : Unit) i M => F_Stand_begin_c13_b84 N k74 n (nI h) (nI i) M) (K 48 21) (fun _ s => s) (fun i _ M1 => (∀ c, c ≠ 22 → M1 c = M0 c) ∧ ∀ k, k < 36 → M1 22 k = nI (mk_dn K h i k)) (fun _ M => k74 (nI (h + 1)) M)
      (fun n s M1 p => by rw [F_Stand_begin_c13_b84, p.1 13 (by omega), e1, if_pos (Int32.le_refl _), nI_1])
      (fun n s i M1 hi p => by
        obtain ⟨p1, p2⟩ := p
        have hkn := hk h hh
        have hb := nw_b2 (K 60 (3 * h)) i
        have ebit : (nI (K 60 (3 * h)) >>> (nI i &&& 31)) &&& (1 : Int32) = nI (nw_b (K 60 (3 * h)) i) := nw_bit (by omega) (by omega)
        refine ⟨mj_u M1 22 (h * 6 + i) (nI (nw_b (K 60 (3 * h)) i)), ⟨fun c hc => by rw [nw_u9 _ hc]; exact p1 c hc, fun k hk => ?_⟩, ?_⟩
        · rw [mj_u_eq]
          by_cases e : k = h * 6 + i
          · rw [e, mj_up_eq, mk_dn, if_pos (by omega), mk_n65b hh hi h6 t6]
          · rw [mj_up_ne _ _ _ e, p2 k hk]
            unfold mk_dn
            by_cases c : k / 6 < h ∨ k / 6 = h ∧ k % 6 < i
            · rw [if_pos c, if_pos (by omega)]
            · rw [if_neg c, if_neg (by omega)]
        · rw [F_Stand_begin_c13_b84, p1 13 (by omega), e1, if_neg (nI_ge hi (by omega)), F_Coast_knows, nw_ck (by omega) (by omega), nI_clamp (by omega), p1 14 (by omega), e14 h hh, ebit]
          by_cases c : nw_b (K 60 (3 * h)) i = 0
          · rw [c, if_pos (show nI 0 = (0 : Int32) from rfl), mk_bs, if_pos rfl, nl_6, pk_mul, nI_add, nw_ck (by omega) (by omega), nI_clamp (by omega), nI_1]
            rfl
          · rw [show nw_b (K 60 (3 * h)) i = 1 by omega, if_neg (show ¬ nI 1 = (0 : Int32) by decide +kernel), mk_bs, if_neg (show ¬ (1 : Int32) = 0 by decide +kernel), nl_6, pk_mul, nI_add, nw_ck (by omega) (by omega), nI_clamp (by omega), nI_1]
            rfl)
      (K 48 21) 0 N () M (by omega) (by omega) hM
    refine ⟨M', ⟨p.1, fun k hk => ?_⟩, q⟩
    rw [p.2 k hk]
    unfold mk_dn
    by_cases c : k / 6 < h ∨ k / 6 = h ∧ k % 6 < K 48 21
    · rw [if_pos c, if_pos (by omega)]
    · rw [if_neg c]
      by_cases c2 : k / 6 < h + 1 ∨ k / 6 = h + 1 ∧ k % 6 < 0
      · rw [if_pos c2, mk_n65z hk (by omega)]
      · rw [if_neg c2]
  obtain ⟨M', p, q⟩ := mk_lp (L := fun n (_ : Unit) i M => F_Stand_begin_c13_b74 N n (nI i) M) (K 48 20) (fun _ s => s) (fun i _ M1 => (∀ c, c ≠ 22 → M1 c = M0 c) ∧ ∀ k, k < 36 → M1 22 k = nI (mk_dn K i 0 k)) (fun _ M => some M)
    (fun n s M1 p => by rw [F_Stand_begin_c13_b74, p.1 13 (by omega), e0, if_pos (Int32.le_refl _)])
    (fun n s i M1 hi p => by
      obtain ⟨M2, x1, x2⟩ := inner (F_Stand_begin_c13_b74 N n) i M1 hi p
      refine ⟨M2, x1, ?_⟩
      rw [F_Stand_begin_c13_b74, p.1 13 (by omega), e0, if_neg (nI_ge hi (by omega)), x2])
    (K 48 20) 0 N () M0 (by omega) (by omega) ⟨fun _ _ => rfl, fun k hk => by rw [ez k hk, mk_dn, if_neg (by omega)]⟩
  refine ⟨M', q, fun k hk => ?_, p.1⟩
  rw [p.2 k hk]
  unfold mk_dn
  by_cases c : k / 6 < K 48 20 ∨ k / 6 = K 48 20 ∧ k % 6 < 0
  · rw [if_pos c]
  · rw [if_neg c, mk_n65z hk (by omega)]
theorem mk_beg (hN : 1000 ≤ N) (hK : mk_kw K) (M : mj_M) (e : ∀ k, k < 4 → M 13 (2 + k) = nI (K 59 k)) (e0 : M 13 0 = nI (K 48 20)) (e1 : M 13 1 = nI (K 48 21)) (e14 : ∀ h, h < K 48 20 → M 14 h = nI (K 60 (3 * h))) : ∃ M', F_Stand_begin_c13 N M = some M' ∧ M' 20 0 = nI (K 59 2) ∧ M' 20 1 = nI (K 59 1 % 2 ^ K 48 21) ∧ M' 20 2 = nI (K 59 0) ∧ (∀ k, 3 ≤ k → k ≤ 6 → M' 20 k = nI 0) ∧ (∀ k, k < 6 → M' 21 k = M 18 k) ∧ (∀ k, k < 36 → M' 22 k = nI (mk_n65 K k)) ∧ (∀ c, ¬ (20 ≤ c ∧ c ≤ 22) → M' c = M c) := by
  have ac : ∀ {R : Type} (o : Option R), mj_ac (0 : Int32) (0 : Int32) (6 : Int32) 6 6 o = o := fun o => nw_ac (a := 0) (b := 0) (c := 6) (by omega) (by omega) (by omega) (by omega)
  have z0 : (0 : Int32).toNatClampNeg = 0 := by decide +kernel
  have z6 : (6 : Int32).toNatClampNeg = 6 := by decide +kernel
  have cp : ∀ (f g : Nat → Int32) k, k < 6 → va_cpy f g 0 0 6 k = f k := fun f g k hk => by
    unfold va_cpy
    rw [if_pos (by omega), show 0 + (k - 0) = k by omega]
  obtain ⟨h6, t6, _, hr, hh, ht⟩ := hK
  have r1 : K 59 1 ≤ 63 := (hr 1 (by omega)).2
  have hk : ∀ h, h < K 48 20 → K 60 (3 * h) < 64 := fun h hlt => by
    have e0 : K 60 (3 * h + 0) ≤ 63 := (hh h hlt 0 (by omega)).2
    rw [Nat.add_zero] at e0
    omega
  have d2 : M 13 2 = nI (K 59 0) := e 0 (by omega)
  have d3 : M 13 3 = nI (K 59 1) := e 1 (by omega)
  have d4 : M 13 4 = nI (K 59 2) := e 2 (by omega)
  unfold F_Stand_begin_c13 F_Coast_allTales
  simp (disch := omega) only [mj_lt, mk_bs, ac, z0, z6, nw_u9, nw_a9]
  rw [d4, d3, d2, e1, mk_own _ (by omega) _ (by omega)]
  obtain ⟨M1, f1, f2, f3⟩ := mk_fill hN (mj_a (mj_u (mj_u (mj_u (mj_u (mj_u (mj_u (mj_u M 20 0 (nI (K 59 2))) 20 1 (nI (K 59 1 % 2 ^ K 48 21))) 20 2 (nI (K 59 0))) 20 3 (0 : Int32)) 20 4 (0 : Int32)) 20 5 (0 : Int32)) 20 6 (0 : Int32)) 21 (va_cpy (M 18) (M 21) 0 0 6))
  have g : ∀ c, ¬ (20 ≤ c ∧ c ≤ 22) → M1 c = M c := fun c hc => by
    rw [f3 c (by omega)]
    simp (disch := omega) only [nw_u9, nw_a9]
  obtain ⟨M2, x1, x2, x3⟩ := mk_beg74 (K := K) hN h6 t6 hk (M0 := M1) (by rw [g 13 (by omega)]; exact e0) (by rw [g 13 (by omega)]; exact e1) (fun h hlt => by rw [g 14 (by omega)]; exact e14 h hlt) f2
  rw [f1, mk_bs]
  refine ⟨M2, x1, ?_, ?_, ?_, fun k h3 h6 => ?_, fun k hk => ?_, x2, fun c hc => by rw [x3 c (by omega)]; exact g c hc⟩
  · rw [x3 20 (by omega), f3 20 (by omega)]
    simp (disch := omega) only [nw_a9, mj_u_eq, mj_up_eq, mj_up_ne]
  · rw [x3 20 (by omega), f3 20 (by omega)]
    simp (disch := omega) only [nw_a9, mj_u_eq, mj_up_eq, mj_up_ne]
  · rw [x3 20 (by omega), f3 20 (by omega)]
    simp (disch := omega) only [nw_a9, mj_u_eq, mj_up_eq, mj_up_ne]
  · rw [x3 20 (by omega), f3 20 (by omega)]
    rcases (show k = 3 ∨ k = 4 ∨ k = 5 ∨ k = 6 by omega) with rfl | rfl | rfl | rfl
    all_goals (simp (disch := omega) only [nw_a9, mj_u_eq, mj_up_eq, mj_up_ne]; rfl)
  · rw [x3 21 (by omega), f3 21 (by omega), nw_ae, cp _ _ k hk]
theorem mk_Xtake (hN : 1000 ≤ N) (hX : mk_X S A M) (hK : mk_kw K) (d : mk_kdx K M) : ∃ M', F_W_takeCoast N M = some M' ∧ mk_X (mk_nc S K) A M' ∧ mk_fx M M' := by
  have t6 := hK.2.1
  have h6 := hK.1
  obtain ⟨d1, d2, d3, d4, d5⟩ := d
  obtain ⟨M1, b1, b2, b3, b4⟩ := mk_bec (mj_u M 2 1 (0 : Int32))
  have u41 : ∀ c k, c ≠ 2 → mj_u M 2 1 (0 : Int32) c k = M c k := fun c k hc => by rw [nw_u9 _ hc]
  have c0 : M1 13 0 = nI (K 48 20) := by rw [b2 0 (by omega), u41 _ _ (by omega)]; exact d1
  have c1 : M1 13 1 = nI (K 48 21) := by rw [b2 1 (by omega), u41 _ _ (by omega)]; exact d2
  obtain ⟨M2, g1, g2, g3, g4, g5, g6, g7, g8⟩ := mk_beg (K := K) hN hK M1 (fun k hk => by rw [b2 (2 + k) (by omega), u41 _ _ (by omega)]; exact d3 k hk) c0 c1 (fun h hh => by rw [(b3 h (by omega)).1, u41 _ _ (by omega)]; exact (d4 h hh).1)
  have f : ∀ c, c ≠ 2 ∧ ¬ (13 ≤ c ∧ c ≤ 22) → M2 c = M c := fun c hc => by rw [g8 c (by omega), b4 c (by omega), nw_u9 _ hc.1]
  have f2 : M2 2 1 = nI 0 := by rw [g8 2 (by omega), b4 2 (by omega), mj_u_eq, mj_up_eq]; rfl
  have q13 : ∀ c, 13 ≤ c ∧ c ≤ 19 → M2 c = M1 c := fun c hc => g8 c (by omega)
  refine ⟨mj_u (mj_u (mj_u M2 24 0 (nI 0)) 24 1 (nI 0)) 29 0 (nI 0), ?_, ?_, ?_⟩
  · rw [F_W_takeCoast]
    simp only [mj_lt]
    rw [b1, mk_bs, g1, mk_bs, F_Past_forget]
    simp only [mj_lt]
    rw [mk_bs]
    rfl
  · have n42 : mk_n65 K 42 = K 59 2 := rfl
    have n43 : mk_n65 K 43 = K 59 1 % 2 ^ K 48 21 := rfl
    have n44 : mk_n65 K 44 = K 59 0 := rfl
    have n48 : mk_n65 K 48 = 0 := rfl
    unfold mk_X
    simp (disch := omega) only [nw_u9, mj_u_eq, mj_up_eq, mj_up_ne, mk_nc48, mk_nc62, mk_nc63, mk_nc64, mk_nc65, mk_nco, f]
    exact ⟨hX.why, hX.ref, f2, fun k hk => absurd hk (Nat.not_lt_zero _), hX.laws, hX.hold, hX.lens, hX.codes, (congrFun (q13 13 (by omega)) 0).trans c0, (congrFun (q13 13 (by omega)) 1).trans c1, by
      rw [q13 13 (by omega), b2 5 (by omega), u41 _ _ (by omega)]
      exact d3 3 (by omega), fun h hh => by rw [q13 14 (by omega), (b3 h (by omega)).1, u41 _ _ (by omega)]; exact (d4 h hh).1, fun h hh => by rw [q13 15 (by omega), (b3 h (by omega)).2.1, u41 _ _ (by omega)]; exact (d4 h hh).2.1, fun h hh => by rw [q13 16 (by omega), (b3 h (by omega)).2.2.1, u41 _ _ (by omega)]; exact (d4 h hh).2.2, fun t ht => by rw [q13 17 (by omega), (b3 t (by omega)).2.2.2.1, u41 _ _ (by omega)]; exact (d5 t ht).1, fun t ht => by rw [q13 18 (by omega), (b3 t (by omega)).2.2.2.2.1, u41 _ _ (by omega)]; exact (d5 t ht).2.1, fun t ht => by rw [q13 19 (by omega), (b3 t (by omega)).2.2.2.2.2, u41 _ _ (by omega)]; exact (d5 t ht).2.2, ⟨g2, g3, g4, g5 3 (by omega) (by omega), g5 4 (by omega) (by omega), g5 5 (by omega) (by omega), g5 6 (by omega) (by omega), fun t ht => by rw [g6 t (by omega), (b3 t (by omega)).2.2.2.2.1, u41 _ _ (by omega), mk_n65k ht t6]; exact (d5 t ht).2.1, g7⟩, fun i hi => by rw [n48] at hi; omega, trivial, trivial, hX.next, fun j hj => absurd hj (Nat.not_lt_zero _), fun h => absurd h (by decide), trivial, fun j hj => absurd hj (Nat.not_lt_zero _), fun j hj => absurd hj (Nat.not_lt_zero _), fun j hj => absurd hj (Nat.not_lt_zero _)⟩
  · intro c hc
    simp (disch := omega) only [nw_u9, f]
end Take
