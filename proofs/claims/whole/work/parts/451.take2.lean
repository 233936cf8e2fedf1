/-! ===== the pure side: a coast taken, the reference; text ===== -/
/-- tales done, and of the next the first houses -/
def mk_dt (K : mk_S) (t h k : Nat) : Nat := if k % 6 < t ∨ k % 6 = t ∧ k / 6 < h then mk_n65 K k else 0
def mk_dk (K : mk_S) (t j : Nat) : Nat := if j < t then mk_n65 K (36 + j) else 0
section Take2
variable {N : Nat} {S K : mk_S} {A : mk_L} {M M' : mj_M}
theorem mk_t117 (hN : 1000 ≤ N) (h6 : K 48 20 ≤ 6) (t6 : K 48 21 ≤ 6) (hk : ∀ h, h < K 48 20 → K 60 (3 * h) < 64) {M0 : mj_M} (e25 : M0 48 25 = nI (K 48 20)) (e26 : M0 48 26 = nI (K 48 21)) (e63 : ∀ k, k < 3 * K 48 20 → M0 63 k = nI (K 60 k)) (e64 : ∀ k, k < 3 * K 48 21 → M0 64 k = nI (K 61 k)) (ez : ∀ k, k < 229 → M0 65 k = nI 0) :
    ∃ M', (∀ c, c ≠ 65 → M' c = M0 c) ∧ (∀ k, k < 42 → M' 65 k = nI (mk_n65 K k)) ∧ (∀ k, 42 ≤ k → k < 229 → M' 65 k = nI 0) ∧ F_M_takeCoast_b117 N N (0 : Int32) M0 = (mj_lt (mj_u M' 65 42 (M' 62 2)) (fun M12 =>
     mj_lt (mj_u M12 65 43 ((M12 62 1) &&& (((1 : Int32) <<< ((M12 48 26) &&& 31)) - (1 : Int32)))) (fun M13 =>
     mj_lt (mj_u M13 65 44 (M13 62 0)) (fun M14 =>
     mj_lt (mj_u M14 48 40 (0 : Int32)) (fun M15 =>
     mj_lt (mj_u M15 48 32 (0 : Int32)) (fun M16 =>
     mj_lt (mj_u M16 48 44 (0 : Int32)) (fun M17 =>
     some (M17 48 25, M17)))))))) := by
  have inner : ∀ (k117 : Int32 → mj_M → Option (Int32 × mj_M)) t M, t < K 48 21 → ((∀ c, c ≠ 65 → M c = M0 c) ∧ (∀ k, k < 36 → M 65 k = nI (mk_dt K t 0 k)) ∧ (∀ j, j < 6 → M 65 (36 + j) = nI (mk_dk K (t + 1) j)) ∧ (∀ k, 42 ≤ k → k < 229 → M 65 k = nI 0)) → ∃ M', ((∀ c, c ≠ 65 → M' c = M0 c) ∧ (∀ k, k < 36 → M' 65 k = nI (mk_dt K (t + 1) 0 k)) ∧ (∀ j, j < 6 → M' 65 (36 + j) = nI (mk_dk K (t + 1) j)) ∧ (∀ k, 42 ≤ k → k < 229 → M' 65 k = nI 0)) ∧ F_M_takeCoast_b142 N k117 N (nI t) (0 : Int32) M = k117 (nI (t + 1)) M' := by
    intro k117 t M ht hM
    obtain ⟨M', p, q⟩ := mk_lp (L := fun n (_ : Unit) i M => F_M_takeCoast_b142 N k117 n (nI t) (nI i) M) (K 48 20) (fun _ s => s) (fun i _ M1 => (∀ c, c ≠ 65 → M1 c = M0 c) ∧ (∀ k, k < 36 → M1 65 k = nI (mk_dt K t i k)) ∧ (∀ j, j < 6 → M1 65 (36 + j) = nI (mk_dk K (t + 1) j)) ∧ (∀ k, 42 ≤ k → k < 229 → M1 65 k = nI 0)) (fun _ M => k117 (nI (t + 1)) M)
      (fun n s M1 p => by rw [F_M_takeCoast_b142, p.1 48 (by omega), e25, if_pos (Int32.le_refl _), nI_1])
      (fun n s i M1 hi p => by
        obtain ⟨p1, p2, p3, p4⟩ := p
        have hkn := hk i hi
        have hb := nw_b2 (K 60 (3 * i)) t
        have ebit : (nI (K 60 (3 * i)) >>> (nI t &&& 31)) &&& (1 : Int32) = nI (nw_b (K 60 (3 * i)) t) := nw_bit (by omega) (by omega)
        refine ⟨mj_u M1 65 (6 * i + t) (nI (nw_b (K 60 (3 * i)) t)), ⟨fun c hc => by rw [nw_u9 _ hc]; exact p1 c hc, fun k hk => ?_, fun j hj => by rw [mj_u_eq, mj_up_ne _ _ _ (by omega)]; exact p3 j hj, fun k k1 k2 => by rw [mj_u_eq, mj_up_ne _ _ _ (by omega)]; exact p4 k k1 k2⟩, ?_⟩
        · rw [mj_u_eq]
          by_cases e : k = 6 * i + t
          · rw [e, mj_up_eq, mk_dt, if_pos (by omega), show 6 * i + t = i * 6 + t by omega, mk_n65b hi ht h6 t6]
          · rw [mj_up_ne _ _ _ e, p2 k hk]
            unfold mk_dt
            by_cases c : k % 6 < t ∨ k % 6 = t ∧ k / 6 < i
            · rw [if_pos c, if_pos (by omega)]
            · rw [if_neg c, if_neg (by omega)]
        · rw [F_M_takeCoast_b142, p1 48 (by omega), e25, if_neg (nI_ge hi (by omega)), F_M_ofHouse, nl_3, pk_mul, nl_0, nI_add, nw_ck (by omega) (by omega), nI_clamp (by omega), Nat.add_zero, p1 63 (by omega), e63 _ (by omega), mk_bs]
          dsimp only
          rw [ebit, nl_6, pk_mul, nI_add, nI_add, Nat.zero_add, nw_ck (by omega) (by omega), nI_clamp (by omega), nI_1]
          rfl)
      (K 48 20) 0 N () M (by omega) (by omega) hM
    refine ⟨M', ⟨p.1, fun k hk => ?_, p.2.2⟩, q⟩
    rw [p.2.1 k hk]
    unfold mk_dt
    by_cases c : k % 6 < t ∨ k % 6 = t ∧ k / 6 < K 48 20
    · rw [if_pos c, if_pos (by omega)]
    · rw [if_neg c]
      by_cases c2 : k % 6 < t + 1 ∨ k % 6 = t + 1 ∧ k / 6 < 0
      · rw [if_pos c2, mk_n65z hk (by omega)]
      · rw [if_neg c2]
  obtain ⟨M', p, q⟩ := mk_lp (L := fun n (_ : Unit) i M => F_M_takeCoast_b117 N n (nI i) M) (K 48 21) (fun _ s => s) (fun i _ M1 => (∀ c, c ≠ 65 → M1 c = M0 c) ∧ (∀ k, k < 36 → M1 65 k = nI (mk_dt K i 0 k)) ∧ (∀ j, j < 6 → M1 65 (36 + j) = nI (mk_dk K i j)) ∧ (∀ k, 42 ≤ k → k < 229 → M1 65 k = nI 0)) (fun _ M => (mj_lt (mj_u M 65 42 (M 62 2)) (fun M12 =>
     mj_lt (mj_u M12 65 43 ((M12 62 1) &&& (((1 : Int32) <<< ((M12 48 26) &&& 31)) - (1 : Int32)))) (fun M13 =>
     mj_lt (mj_u M13 65 44 (M13 62 0)) (fun M14 =>
     mj_lt (mj_u M14 48 40 (0 : Int32)) (fun M15 =>
     mj_lt (mj_u M15 48 32 (0 : Int32)) (fun M16 =>
     mj_lt (mj_u M16 48 44 (0 : Int32)) (fun M17 =>
     some (M17 48 25, M17)))))))))
    (fun n s M1 p => by rw [F_M_takeCoast_b117, p.1 48 (by omega), e26, if_pos (Int32.le_refl _)])
    (fun n s i M1 hi p => by
      obtain ⟨p1, p2, p3, p4⟩ := p
      obtain ⟨M2, x1, x2⟩ := inner (F_M_takeCoast_b117 N n) i (mj_u M1 65 (36 + i) (nI (K 61 (3 * i + 1)))) hi ⟨fun c hc => by rw [nw_u9 _ hc]; exact p1 c hc, fun k hk => by rw [mj_u_eq, mj_up_ne _ _ _ (by omega)]; exact p2 k hk, fun j hj => by
        rw [mj_u_eq]
        by_cases e : j = i
        · rw [e, mj_up_eq, mk_dk, if_pos (by omega), mk_n65k hi t6]
        · rw [mj_up_ne _ _ _ (by omega), p3 j hj]
          unfold mk_dk
          by_cases c : j < i
          · rw [if_pos c, if_pos (by omega)]
          · rw [if_neg c, if_neg (by omega)], fun k k1 k2 => by rw [mj_u_eq, mj_up_ne _ _ _ (by omega)]; exact p4 k k1 k2⟩
      refine ⟨M2, x1, ?_⟩
      rw [F_M_takeCoast_b117, p1 48 (by omega), e26, if_neg (nI_ge hi (by omega)), F_M_ofTale, nl_3, pk_mul, nl_1, nI_add, nw_ck (by omega) (by omega), nI_clamp (by omega), p1 64 (by omega), e64 _ (by omega), mk_bs]
      dsimp only
      rw [nl_36, nI_add, nw_ck (by omega) (by omega), nI_clamp (by omega)]
      simp only [mj_lt]
      exact x2)
    (K 48 21) 0 N () M0 (by omega) (by omega) ⟨fun _ _ => rfl, fun k hk => by rw [ez k (by omega), mk_dt, if_neg (by omega)], fun j hj => by rw [ez _ (by omega), mk_dk, if_neg (by omega)], fun k k1 k2 => ez k k2⟩
  refine ⟨M', p.1, fun k hk => ?_, p.2.2.2, q⟩
  by_cases c : k < 36
  · rw [p.2.1 k c]
    unfold mk_dt
    by_cases c2 : k % 6 < K 48 21 ∨ k % 6 = K 48 21 ∧ k / 6 < 0
    · rw [if_pos c2]
    · rw [if_neg c2, mk_n65z c (by omega)]
  · obtain ⟨j, rfl⟩ : ∃ j, k = 36 + j := ⟨k - 36, by omega⟩
    rw [p.2.2.1 j (by omega)]
    unfold mk_dk
    by_cases c2 : j < K 48 21
    · rw [if_pos c2]
    · rw [if_neg c2, mk_n65y c2 (by omega)]
theorem mk_cp62 (hN : 1000 ≤ N) (M : mj_M) : ∃ M', (∀ c, c ≠ 62 → M' c = M c) ∧ (∀ k, k < 4 → M' 62 k = M 59 k) ∧ F_M_takeCoast_b18 N N (0 : Int32) M = F_M_takeCoast_b43 N N (0 : Int32) M' := by
  obtain ⟨M', p, q⟩ := mk_lp (L := fun n (_ : Unit) i M => F_M_takeCoast_b18 N n (nI i) M) 4 (fun _ s => s) (fun i _ M1 => (∀ c, c ≠ 62 → M1 c = M c) ∧ ∀ k, k < i → M1 62 k = M 59 k) (fun _ M => F_M_takeCoast_b43 N N (0 : Int32) M)
    (fun n s M1 p => by rw [F_M_takeCoast_b18, nl_4, if_pos (Int32.le_refl _)])
    (fun n s i M1 hi p => by
      obtain ⟨p1, p2⟩ := p
      refine ⟨mj_u M1 62 i (M 59 i), ⟨fun c hc => by rw [nw_u9 _ hc]; exact p1 c hc, fun k hk => ?_⟩, ?_⟩
      · rw [mj_u_eq]
        by_cases e : k = i
        · rw [e, mj_up_eq]
        · rw [mj_up_ne _ _ _ e]; exact p2 k (by omega)
      · rw [F_M_takeCoast_b18, nl_4, if_neg (nI_ge hi (by omega)), nw_ck hi (by omega), nw_ck hi (by omega), nI_clamp (by omega), nI_1, p1 59 (by omega)]
        rfl)
    4 0 N () M (by omega) (by omega) ⟨fun _ _ => rfl, fun k hk => absurd hk (Nat.not_lt_zero _)⟩
  exact ⟨M', p.1, p.2, q⟩
theorem mk_cp63 (hN : 1000 ≤ N) (M : mj_M) : ∃ M', (∀ c, c ≠ 63 → M' c = M c) ∧ (∀ k, k < 18 → M' 63 k = M 60 k) ∧ F_M_takeCoast_b43 N N (0 : Int32) M = F_M_takeCoast_b69 N N (0 : Int32) M' := by
  obtain ⟨M', p, q⟩ := mk_lp (L := fun n (_ : Unit) i M => F_M_takeCoast_b43 N n (nI i) M) 18 (fun _ s => s) (fun i _ M1 => (∀ c, c ≠ 63 → M1 c = M c) ∧ ∀ k, k < i → M1 63 k = M 60 k) (fun _ M => F_M_takeCoast_b69 N N (0 : Int32) M)
    (fun n s M1 p => by rw [F_M_takeCoast_b43, if_pos (show (18 : Int32) ≤ nI 18 by decide +kernel)])
    (fun n s i M1 hi p => by
      obtain ⟨p1, p2⟩ := p
      refine ⟨mj_u M1 63 i (M 60 i), ⟨fun c hc => by rw [nw_u9 _ hc]; exact p1 c hc, fun k hk => ?_⟩, ?_⟩
      · rw [mj_u_eq]
        by_cases e : k = i
        · rw [e, mj_up_eq]
        · rw [mj_up_ne _ _ _ e]; exact p2 k (by omega)
      · rw [F_M_takeCoast_b43, show (18 : Int32) = nI 18 from rfl, if_neg (nI_ge hi (by omega)), nw_ck hi (by omega), nw_ck hi (by omega), nI_clamp (by omega), nI_1, p1 60 (by omega)]
        rfl)
    18 0 N () M (by omega) (by omega) ⟨fun _ _ => rfl, fun k hk => absurd hk (Nat.not_lt_zero _)⟩
  exact ⟨M', p.1, p.2, q⟩
theorem mk_cp64 (hN : 1000 ≤ N) (M : mj_M) : ∃ M', (∀ c, c ≠ 64 → M' c = M c) ∧ (∀ k, k < 18 → M' 64 k = M 61 k) ∧ F_M_takeCoast_b69 N N (0 : Int32) M = F_M_takeCoast_b95 N N (0 : Int32) M' := by
  obtain ⟨M', p, q⟩ := mk_lp (L := fun n (_ : Unit) i M => F_M_takeCoast_b69 N n (nI i) M) 18 (fun _ s => s) (fun i _ M1 => (∀ c, c ≠ 64 → M1 c = M c) ∧ ∀ k, k < i → M1 64 k = M 61 k) (fun _ M => F_M_takeCoast_b95 N N (0 : Int32) M)
    (fun n s M1 p => by rw [F_M_takeCoast_b69, if_pos (show (18 : Int32) ≤ nI 18 by decide +kernel)])
    (fun n s i M1 hi p => by
      obtain ⟨p1, p2⟩ := p
      refine ⟨mj_u M1 64 i (M 61 i), ⟨fun c hc => by rw [nw_u9 _ hc]; exact p1 c hc, fun k hk => ?_⟩, ?_⟩
      · rw [mj_u_eq]
        by_cases e : k = i
        · rw [e, mj_up_eq]
        · rw [mj_up_ne _ _ _ e]; exact p2 k (by omega)
      · rw [F_M_takeCoast_b69, show (18 : Int32) = nI 18 from rfl, if_neg (nI_ge hi (by omega)), nw_ck hi (by omega), nw_ck hi (by omega), nI_clamp (by omega), nI_1, p1 61 (by omega)]
        rfl)
    18 0 N () M (by omega) (by omega) ⟨fun _ _ => rfl, fun k hk => absurd hk (Nat.not_lt_zero _)⟩
  exact ⟨M', p.1, p.2, q⟩
theorem mk_cp65 (hN : 1000 ≤ N) (M : mj_M) : ∃ M', (∀ c, c ≠ 65 → M' c = M c) ∧ (∀ k, k < 229 → M' 65 k = nI 0) ∧ F_M_takeCoast_b95 N N (0 : Int32) M = F_M_takeCoast_b117 N N (0 : Int32) M' := by
  obtain ⟨M', p, q⟩ := mk_lp (L := fun n (_ : Unit) i M => F_M_takeCoast_b95 N n (nI i) M) 229 (fun _ s => s) (fun i _ M1 => (∀ c, c ≠ 65 → M1 c = M c) ∧ ∀ k, k < i → M1 65 k = nI 0) (fun _ M => F_M_takeCoast_b117 N N (0 : Int32) M)
    (fun n s M1 p => by rw [F_M_takeCoast_b95, nl_229, if_pos (Int32.le_refl _)])
    (fun n s i M1 hi p => by
      obtain ⟨p1, p2⟩ := p
      refine ⟨mj_u M1 65 i (nI 0), ⟨fun c hc => by rw [nw_u9 _ hc]; exact p1 c hc, fun k hk => ?_⟩, ?_⟩
      · rw [mj_u_eq]
        by_cases e : k = i
        · rw [e, mj_up_eq]
        · rw [mj_up_ne _ _ _ e]; exact p2 k (by omega)
      · rw [F_M_takeCoast_b95, nl_229, if_neg (nI_ge hi (by omega)), nw_ck hi (by omega), nI_clamp (by omega), nI_1]
        rfl)
    229 0 N () M (by omega) (by omega) ⟨fun _ _ => rfl, fun k hk => absurd hk (Nat.not_lt_zero _)⟩
  exact ⟨M', p.1, p.2, q⟩
theorem mk_Mtakc (hN : 1000 ≤ N) (hM : mk_M S A M) (hK : mk_kw K) (d : mk_kdm K M) : ∃ M', F_M_takeCoast N (mj_u M 48 2 (0 : Int32)) = some (nI (K 48 20), M') ∧ mk_M (mk_nc S K) A M' ∧ mk_fm M M' := by
  obtain ⟨d1, d2, d3, d4, d5⟩ := d
  obtain ⟨h6, t6, _, hr, hh, ht⟩ := id hK
  have r1 : K 59 1 ≤ 63 := (hr 1 (by omega)).2
  have hk : ∀ h, h < K 48 20 → K 60 (3 * h) < 64 := fun h hlt => by
    have e0 : K 60 (3 * h + 0) ≤ 63 := (hh h hlt 0 (by omega)).2
    rw [Nat.add_zero] at e0
    omega
  have e0 : F_M_takeCoast N (mj_u M 48 2 (0 : Int32)) = F_M_takeCoast_b18 N N (0 : Int32) (mj_u (mj_u (mj_u M 48 2 (nI 0)) 48 25 (nI (K 48 20))) 48 26 (nI (K 48 21))) := by
    rw [F_M_takeCoast]
    simp only [mj_lt]
    simp (disch := omega) only [mj_u_eq, mj_up_ne]
    rw [d1, d2]
    rfl
  obtain ⟨M1, a1, a2, a3⟩ := mk_cp62 hN (mj_u (mj_u (mj_u M 48 2 (nI 0)) 48 25 (nI (K 48 20))) 48 26 (nI (K 48 21)))
  obtain ⟨M2, b1, b2, b3⟩ := mk_cp63 hN M1
  obtain ⟨M3, c1, c2, c3⟩ := mk_cp64 hN M2
  obtain ⟨M4, f1, f2, f3⟩ := mk_cp65 hN M3
  have g : ∀ c, ¬ (62 ≤ c ∧ c ≤ 65) → M4 c = mj_u (mj_u (mj_u M 48 2 (nI 0)) 48 25 (nI (K 48 20))) 48 26 (nI (K 48 21)) c := fun c hc => by rw [f1 c (by omega), c1 c (by omega), b1 c (by omega), a1 c (by omega)]
  have g62 : ∀ k, k < 4 → M4 62 k = nI (K 59 k) := fun k hk => by
    rw [f1 62 (by omega), c1 62 (by omega), b1 62 (by omega), a2 k hk, nw_u9 _ (by omega), nw_u9 _ (by omega), nw_u9 _ (by omega)]
    exact d3 k hk
  have g63 : ∀ k, k < 3 * K 48 20 → M4 63 k = nI (K 60 k) := fun k hk => by
    rw [f1 63 (by omega), c1 63 (by omega), b2 k (by omega), a1 60 (by omega), nw_u9 _ (by omega), nw_u9 _ (by omega), nw_u9 _ (by omega)]
    exact d4 k hk
  have g64 : ∀ k, k < 3 * K 48 21 → M4 64 k = nI (K 61 k) := fun k hk => by
    rw [f1 64 (by omega), c2 k (by omega), b1 61 (by omega), a1 61 (by omega), nw_u9 _ (by omega), nw_u9 _ (by omega), nw_u9 _ (by omega)]
    exact d5 k hk
  obtain ⟨M5, x1, x2, x3, x4⟩ := mk_t117 (K := K) hN h6 t6 hk (M0 := M4) (by rw [g 48 (by omega)]; simp (disch := omega) only [mj_u_eq, mj_up_ne, mj_up_eq]) (by rw [g 48 (by omega)]; simp (disch := omega) only [mj_u_eq, mj_up_ne, mj_up_eq]) g63 g64 f2
  have q0 : M5 62 0 = nI (K 59 0) := by rw [x1 62 (by omega)]; exact g62 0 (by omega)
  have q1 : M5 62 1 = nI (K 59 1) := by rw [x1 62 (by omega)]; exact g62 1 (by omega)
  have q2 : M5 62 2 = nI (K 59 2) := by rw [x1 62 (by omega)]; exact g62 2 (by omega)
  have q48 : M5 48 = mj_u (mj_u (mj_u M 48 2 (nI 0)) 48 25 (nI (K 48 20))) 48 26 (nI (K 48 21)) 48 := by rw [x1 48 (by omega)]; exact g 48 (by omega)
  have q26 : M5 48 26 = nI (K 48 21) := by rw [q48]; simp (disch := omega) only [mj_u_eq, mj_up_ne, mj_up_eq]
  have q25 : M5 48 25 = nI (K 48 20) := by rw [q48]; simp (disch := omega) only [mj_u_eq, mj_up_ne, mj_up_eq]
  have f : ∀ c, c ≠ 48 ∧ ¬ (62 ≤ c ∧ c ≤ 65) → M5 c = M c := fun c hc => by
    rw [x1 c (by omega), g c (by omega)]
    simp (disch := omega) only [nw_u9]
  have f48 : ∀ k, k ≠ 2 ∧ k ≠ 25 ∧ k ≠ 26 → M5 48 k = M 48 k := fun k hk => by
    rw [q48]
    simp (disch := omega) only [mj_u_eq, mj_up_ne]
  have f482 : M5 48 2 = nI 0 := by rw [q48]; simp (disch := omega) only [mj_u_eq, mj_up_ne, mj_up_eq]
  refine ⟨mj_u (mj_u (mj_u (mj_u (mj_u (mj_u M5 65 42 (nI (K 59 2))) 65 43 (nI (K 59 1 % 2 ^ K 48 21))) 65 44 (nI (K 59 0))) 48 40 (nI 0)) 48 32 (nI 0)) 48 44 (nI 0), ?_, ?_, ?_⟩
  · rw [e0, a3, b3, c3, f3, x4]
    simp (disch := omega) only [mj_lt, nw_u9, mj_u_eq, mj_up_ne]
    rw [q0, q1, q2, q26, q25, mk_own _ (by omega) _ (by omega)]
    rfl
  · unfold mk_M
    simp (disch := omega) only [nw_u9, mj_u_eq, mj_up_eq, mj_up_ne, mk_nc48, mk_nc62, mk_nc63, mk_nc64, mk_nc65, mk_nco, f, f48]
    exact ⟨f482, hM.laws, q25, q26, hM.hold, hM.why, trivial, trivial, trivial, fun k hk => absurd hk (Nat.not_lt_zero _), hM.lens, fun n hn => mk_cl_cg (by simp (disch := omega) only [nw_u9, f]) (by simp (disch := omega) only [nw_u9, f]) (by simp (disch := omega) only [nw_u9, f]) (by simp (disch := omega) only [nw_u9, f]) (by simp (disch := omega) only [nw_u9, f]) _ _ _ (hM.codes n hn), by
      rw [x1 62 (by omega)]
      exact g62 3 (by omega), fun k hk => by
      rw [x1 63 (by omega)]
      exact g63 k hk, fun k hk => by
      rw [x1 64 (by omega)]
      exact g64 k hk, fun k hk => by
      by_cases k44 : k = 44
      · subst k44; rw [mj_up_eq]; rfl
      rw [mj_up_ne _ _ _ k44]
      by_cases k43 : k = 43
      · subst k43; rw [mj_up_eq]; rfl
      rw [mj_up_ne _ _ _ k43]
      by_cases k42 : k = 42
      · subst k42; rw [mj_up_eq]; rfl
      rw [mj_up_ne _ _ _ k42]
      by_cases c : k < 42
      · exact x2 k c
      · rw [x3 k (by omega) hk, mk_n65o (by omega)], hM.ref, fun j hj => absurd hj (Nat.not_lt_zero _), fun j hj => absurd hj (Nat.not_lt_zero _), fun j hj => absurd hj (Nat.not_lt_zero _), fun j hj => absurd hj (Nat.not_lt_zero _), fun h => absurd h (by decide)⟩
  · intro c hc
    simp (disch := omega) only [nw_u9, f]
theorem mk_text0 (hN : 1000 ≤ N) (hw : mk_W S A) (hX : mk_X S A M) (hM : mk_M S A M) : ∃ r M1 M2, F_W_text N (0 : Int32) M = some (r, M1) ∧ F_M_text N (0 : Int32) M1 = some (r, M2) ∧ mk_I M2 := by
  have e01 : ¬ (0 : Int32) = 1 := by decide +kernel
  have hz := hw.size
  rcases mk_Acoast hN (mk_Xtp hX hw).1 with ⟨K, k1, k2, k3, k4, a2, a3⟩ | ⟨w, a1, a2, a3⟩
  · refine mk_fin (S' := mk_nc S K) (A' := A) (r := nI (K 48 20)) (mk_Wnc hw k1 k2 k3 k4) hX hM (fun M hX => ?_) (fun M hM => ?_)
    · obtain ⟨M1, x1, x2, x3, x4⟩ := a2 M (mk_Xtp hX hw)
      obtain ⟨M2, y1, y2, y3⟩ := mk_Xtake hN (hX.kf x4 (x3.trans hX.size.symm)) k1 x2
      refine ⟨M2, ?_, y2, x4.fx.tr y3⟩
      have y13 : M2 13 0 = nI (K 48 20) := by
        have t := y2.hs
        rw [mk_nc48] at t
        simp (disch := omega) only [mj_up_eq, mj_up_ne] at t
        exact t
      rw [F_W_text, if_pos rfl, x1, mk_bs, if_pos (show -nI 1 = (-1 : Int32) from rfl), y1, mk_bs, y13]
    · obtain ⟨M1, x1, x2, x3⟩ := a3 M (mk_Mtp hM hw)
      obtain ⟨M2, y1, y2, y3⟩ := mk_Mtakc hN (hM.kf x3) k1 x2
      refine ⟨M2, ?_, y2, x3.fm.tr y3⟩
      rw [F_M_text, if_pos rfl, x1, mk_bs, if_pos (show -nI 1 = (-1 : Int32) from rfl)]
      simp only [mj_lt]
      rw [y1, mk_bs]
  · refine mk_fin (S' := S) (A' := A) (r := -1) hw hX hM (fun M hX => ?_) (fun M hM => ?_)
    · obtain ⟨M1, x1, x2⟩ := a2 M (mk_Xtp hX hw)
      refine ⟨M1, ?_, hX.kf x2.2.2.2 (x2.2.2.1.trans hX.size.symm), x2.2.2.2.fx⟩
      rw [F_W_text, if_pos rfl, x1, mk_bs, if_neg (mk_nm1 (by omega)), F_W_text_b27, if_neg e01]
    · obtain ⟨M1, x1, x2⟩ := a3 M (mk_Mtp hM hw)
      refine ⟨M1, ?_, hM.kf x2.2.2, x2.2.2.fm⟩
      rw [F_M_text, if_pos rfl, x1, mk_bs, if_neg (mk_nm1 (by omega)), F_M_text_b22, if_neg e01]
end Take2
theorem op_3 {N : Nat} (hN : 10000 ≤ N) : mo_3 N mk_I := by
  intro M ⟨S, A, hw, hX, hM⟩ a
  by_cases c0 : a = 0
  · subst c0
    exact mk_text0 (by omega) hw hX hM
  by_cases c1 : a = 1
  · subst c1
    exact mk_text1 (by omega) hw hX hM
  refine mk_fin (r := -1) hw hX hM (mk_QX.same fun M hX => ?_) (mk_QM.same fun M hM => ?_)
  · rw [F_W_text, if_neg c0, F_W_text_b27, if_neg c1]
  · rw [F_M_text, if_neg c0, F_M_text_b22, if_neg c1]
