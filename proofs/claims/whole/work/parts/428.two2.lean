/-! ===== the pure side: two, the other side ===== -/
section Two2
variable {N : Nat} {S : mk_S} {A : mk_L}
theorem mk_Mpa (hN : 1000 ≤ N) {R : mk_S} {M : mj_M} (hM : mk_M R A M) {e : Nat} (he : e ≤ 1) : ∃ M', F_M_putAside N (nI e) M = some M' ∧ (∀ c, c ≠ 68 → M' c = M c) ∧ (∀ k, k < 48 → M' 68 (48 * e + k) = nI (R 65 k)) ∧ (∀ j, j < 48 * e → M' 68 j = M 68 j) := by
  obtain ⟨M', p, q⟩ := mk_lp (L := fun n (_ : Unit) i M => F_M_putAside_b2 N n (nI e) (nI i) M) 48 (fun _ s => s) (fun i _ M1 => (∀ c, c ≠ 68 → M1 c = M c) ∧ (∀ k, k < i → M1 68 (48 * e + k) = nI (R 65 k)) ∧ ∀ j, j < 48 * e → M1 68 j = M 68 j) (fun _ M => some M)
    (fun n s M1 p => by rw [F_M_putAside_b2, nl_48, if_pos (Int32.le_refl _)])
    (fun n s i M1 hi p => by
      obtain ⟨p1, p2, p3⟩ := p
      refine ⟨mj_u M1 68 (48 * e + i) (nI (R 65 i)), ⟨fun c hc => by rw [nw_u9 _ hc]; exact p1 c hc, fun k hk => ?_, fun j hj => ?_⟩, ?_⟩
      · rw [mj_u_eq]
        by_cases c : k = i
        · rw [c, mj_up_eq]
        · rw [mj_up_ne _ _ _ (by omega)]; exact p2 k (by omega)
      · rw [mj_u_eq, mj_up_ne _ _ _ (by omega)]; exact p3 j hj
      · rw [F_M_putAside_b2, nl_48, if_neg (nI_ge hi (by omega)), pk_mul, nI_add, nw_ck (by omega) (by omega), nw_ck (by omega) (by omega), nI_clamp (by omega), nI_clamp (by omega), p1 65 (by omega), hM.now i (by omega), nI_1]
        rfl)
    48 0 N () M (by omega) (by omega) ⟨fun _ _ => rfl, fun k hk => by omega, fun _ _ => rfl⟩
  exact ⟨M', q, p⟩
theorem mk_Mtk (hN : 1000 ≤ N) {R R' : mk_S} {M : mj_M} (hM : mk_M R' A M) (hc : ∀ c, c ≠ 65 → R' c = R c) (hk : ∀ k, 48 ≤ k → R' 65 k = R 65 k) {e : Nat} (he : e ≤ 1) (ha : ∀ k, k < 48 → M 68 (48 * e + k) = nI (R 65 k)) : ∃ M', F_M_takeBack N (nI e) M = some M' ∧ mk_M R A M' ∧ ∀ c, c ≠ 65 → M' c = M c := by
  obtain ⟨M', p, q⟩ := mk_lp (L := fun n (_ : Unit) i M => F_M_takeBack_b2 N n (nI e) (nI i) M) 48 (fun _ s => s) (fun i _ M1 => (∀ c, c ≠ 65 → M1 c = M c) ∧ (∀ k, k < i → M1 65 k = nI (R 65 k)) ∧ ∀ k, i ≤ k → M1 65 k = M 65 k) (fun _ M => some M)
    (fun n s M1 p => by rw [F_M_takeBack_b2, nl_48, if_pos (Int32.le_refl _)])
    (fun n s i M1 hi p => by
      obtain ⟨p1, p2, p3⟩ := p
      refine ⟨mj_u M1 65 i (nI (R 65 i)), ⟨fun c hc => by rw [nw_u9 _ hc]; exact p1 c hc, fun k hk => ?_, fun k hk => ?_⟩, ?_⟩
      · rw [mj_u_eq]
        by_cases c : k = i
        · rw [c, mj_up_eq]
        · rw [mj_up_ne _ _ _ c]; exact p2 k (by omega)
      · rw [mj_u_eq, mj_up_ne _ _ _ (by omega)]; exact p3 k (by omega)
      · rw [F_M_takeBack_b2, nl_48, if_neg (nI_ge hi (by omega)), pk_mul, nI_add, nw_ck (by omega) (by omega), nw_ck (by omega) (by omega), nI_clamp (by omega), nI_clamp (by omega), p1 68 (by omega), ha i hi, nI_1]
        rfl)
    48 0 N () M (by omega) (by omega) ⟨fun _ _ => rfl, fun k hk => by omega, fun _ _ => rfl⟩
  obtain ⟨p1, p2, p3⟩ := p
  refine ⟨M', q, ?_, p1⟩
  unfold mk_M at hM ⊢
  simp (disch := omega) only [hc] at hM
  obtain ⟨z_size, z_laws, z_hs, z_ts, z_hold, z_why, z_kept, z_sights, z_img, z_tape, z_lens, z_codes, z_often, z_house, z_tale, z_now, z_ref, z_rows, z_sh, z_sb, z_si, z_image⟩ := hM
  simp (disch := omega) only [p1]
  refine ⟨z_size, z_laws, z_hs, z_ts, z_hold, z_why, z_kept, z_sights, z_img, z_tape, z_lens, fun n hn => mk_cl_cg (p1 _ (by omega)) (p1 _ (by omega)) (p1 _ (by omega)) (p1 _ (by omega)) (p1 _ (by omega)) _ _ _ (z_codes n hn), z_often, z_house, z_tale, fun k hk => ?_, z_ref, z_rows, z_sh, z_sb, z_si, z_image⟩
  by_cases c : k < 48
  · exact p2 k c
  · rw [p3 k (by omega), z_now k hk, ‹∀ k, 48 ≤ k → R' 65 k = R 65 k› k (by omega)]
/-- what is best so far, on the other side -/
def mk_bm (o : Option (Nat × Nat)) (M : mj_M) : Prop := M 48 35 = mk_er o ∧ ∀ q, o = some q → M 48 36 = nI q.2
theorem mk_Mc2 {M : mj_M} {o : Option (Nat × Nat)} {row sum : Nat} {B : Nat} (hB : B < 2 ^ 31) (hb : mk_bm o M) (hob : mk_ob B o) (h1 : row < B) (h2 : sum < 1000) (F : Option mj_M) (hF : F = (if (M 48 35) = (-1 : Int32) then (mj_lt (mj_u M 48 35 (nI row)) (fun M4 => mj_lt (mj_u M4 48 36 (nI sum)) (fun M5 => some M5))) else (if nI sum ≤ (M 48 36) then (some M) else (mj_lt (mj_u M 48 35 (nI row)) (fun M7 => mj_lt (mj_u M7 48 36 (nI sum)) (fun M8 => some M8)))))) : ∃ M', F = some M' ∧ mk_bm (mk_c2 row sum o) M' ∧ (∀ c, c ≠ 48 → M' c = M c) ∧ ∀ k, k ≠ 35 → k ≠ 36 → M' 48 k = M 48 k := by
  have new : ∃ M', some (mj_u (mj_u M 48 35 (nI row)) 48 36 (nI sum)) = some M' ∧ mk_bm (some (row, sum)) M' ∧ (∀ c, c ≠ 48 → M' c = M c) ∧ ∀ k, k ≠ 35 → k ≠ 36 → M' 48 k = M 48 k := by
    refine ⟨_, rfl, ⟨?_, fun q hq => ?_⟩, fun c hc => by rw [nw_u9 _ hc, nw_u9 _ hc], fun k k1 k2 => by rw [mj_u_eq, mj_up_ne _ _ _ k2, mj_u_eq, mj_up_ne _ _ _ k1]⟩
    · rw [mj_u_eq, mj_up_ne _ _ _ (by omega), mj_u_eq, mj_up_eq]; rfl
    · rw [mj_u_eq, mj_up_eq, ← Option.some.inj hq]
  rw [hF]
  simp only [mj_lt]
  obtain ⟨b1, b2⟩ := hb
  rw [b1]
  cases o with
  | none => rw [if_pos (show mk_er none = -1 from rfl), mk_c2]; exact new
  | some q =>
    have hq : q.1 < B ∧ q.2 < 1000 := hob
    rw [if_neg (show ¬ mk_er (some q) = (-1 : Int32) from (show ¬ nI q.1 = -nI 1 by simp (disch := omega) only [nw_eqm]; trivial)), b2 q rfl, mk_c2]
    simp (disch := omega) only [nw_le]
    by_cases c : sum ≤ q.2
    · rw [if_pos c, if_pos c]
      exact ⟨M, rfl, ⟨b1, b2⟩, fun _ _ => rfl, fun _ _ _ => rfl⟩
    · rw [if_neg c, if_neg c]; exact new
/-- he goes there, days left aside -/
def mk_gw2 (R : mk_S) (h : Nat) : mk_S := mk_u (mk_u R 65 44 (R 65 44 - nw_d h (R 65 42))) 65 42 h
theorem mk_gw2_o {R : mk_S} {h c : Nat} (hc : c ≠ 65) : mk_gw2 R h c = R c := by unfold mk_gw2; rw [mk_un1 hc, mk_un1 hc]
theorem mk_gw2_k {R : mk_S} {h k : Nat} (h1 : k ≠ 42) (h2 : k ≠ 44) : mk_gw2 R h 65 k = R 65 k := by
  unfold mk_gw2
  simp only [mk_u5]
  rw [mj_up_ne _ _ _ h1, mj_up_ne _ _ _ h2]
theorem mk_gw2_42 {R : mk_S} {h : Nat} : mk_gw2 R h 65 42 = h := by unfold mk_gw2; rw [mk_u5, mj_up_eq]
theorem mk_gw2_44 {R : mk_S} {h : Nat} : mk_gw2 R h 65 44 = R 65 44 - nw_d h (R 65 42) := by unfold mk_gw2; rw [mk_u5, mj_up_ne _ _ _ (by omega), mk_u5, mj_up_eq]
theorem mk_Wgw2 {R : mk_S} (hw : mk_W R A) {h : Nat} (hh : h < R 48 25) : mk_W (mk_gw2 R h) A := by
  have h6 := hw.h6
  have hb := hw.now.bread
  refine hw.now' (fun c hc => mk_gw2_o hc) ?_ (mk_gw2_k (by omega) (by omega))
  unfold mk_gw2
  simp only [mk_u5]
  exact (hw.now.u44 hw.t6 (by omega)).u42 hw.t6 hh (by omega)
/-- a telling there: nights, state, memory -/
theorem mk_Mgt (hN : 10000 ≤ N) {R : mk_S} (hw : mk_W R A) {M : mj_M} (hM : mk_M R A M) {h t : Nat} (hh : h < R 48 25) (ht : t < R 48 26) (hb : nw_d h (R 65 42) ≤ R 65 44) (h0 : 0 < R 48 25) : ∃ M1 M2, F_M_goNow (nI h) M = some M1 ∧ F_M_tellNow N (nI t) M1 = some (nI (mk_now (mk_gw2 R h) A h t), M2) ∧ mk_M (mk_t4 (mk_gw2 R h) t (mk_now (mk_gw2 R h) A h t)) A M2 ∧ mk_W (mk_t4 (mk_gw2 R h) t (mk_now (mk_gw2 R h) A h t)) A ∧ ∀ c, c ≠ 57 → c ≠ 58 → c ≠ 65 → M2 c = M c := by
  have h6 := hw.h6
  have hw1 := mk_Wgw2 hw hh
  have e48 : mk_gw2 R h 48 = R 48 := mk_gw2_o (by omega)
  obtain ⟨M1, e1, x1, f1⟩ := mk_Mgo hw hM (show h < 6 by omega) hb
  have x1 : mk_M (mk_gw2 R h) A M1 := x1
  obtain ⟨M2, e2, x2, f2, g2⟩ := mk_MtellNow hN hw1 x1 (by rw [e48]; exact h0) (t := t) (by rw [e48]; exact ht)
  rw [mk_gw2_42] at e2 x2
  refine ⟨M1, M2, e1, e2, x2, mk_Wt4 hw1 (by rw [e48]; exact h0) (by rw [e48]; exact ht), fun c c1 c2 c3 => ?_⟩
  rw [g2 c c1 c2 c3]
  unfold F_M_goNow at e1
  rw [mk_Mfar hM hw (by omega)] at e1
  simp only [mk_bs, mj_lt] at e1
  rw [← Option.some.inj e1, nw_u9 _ c3, nw_u9 _ c3]
/-- the loop over tellings at a depth -/
theorem mk_Mb40 (hN : 10000 ≤ N) {R : mk_S} (hw : mk_W R A) (h0 : 0 < R 48 25) (hT : 0 < R 48 26) {e row nts : Nat} (he : e ≤ 1) (K : Int32 → Int32 → Int32 → mj_M → Option mj_M) (g : Nat → Nat → Option (Nat × Nat) → Option (Nat × Nat)) (P : mj_M → Prop) (hP : ∀ M M', P M → (∀ c, c ≠ 57 → c ≠ 58 → c ≠ 65 → M' c = M c) → P M') (hg0 : ∀ h t o, nw_b (R 65 43) t = 0 ∨ R 65 44 < nw_d h (R 65 42) → g h t o = o) (hK : ∀ h t o M, h < R 48 25 → t < R 48 26 → ¬ nw_b (R 65 43) t = 0 → ¬ R 65 44 < nw_d h (R 65 42) → mk_M (mk_t4 (mk_gw2 R h) t (mk_now (mk_gw2 R h) A h t)) A M → mk_bm o M → mk_ob 10000 o → P M → (∀ k, k < 48 → M 68 (48 * e + k) = nI (R 65 k)) → ∃ M' R', K (nI (e + 1)) (nI (100 * row + 10 * h + t)) (nI (nts + mk_now (mk_gw2 R h) A h t)) M = some M' ∧ mk_M R' A M' ∧ (∀ c, c ≠ 65 → R' c = R c) ∧ (∀ k, 48 ≤ k → R' 65 k = R 65 k) ∧ mk_bm (g h t o) M' ∧ mk_ob 10000 (g h t o) ∧ P M' ∧ (∀ k, k < 48 → M' 68 (48 * e + k) = nI (R 65 k))) : ∀ o M, mk_M R A M → mk_bm o M → mk_ob 10000 o → P M → (∀ k, k < 48 → M 68 (48 * e + k) = nI (R 65 k)) → ∃ M', F_M_tryTwo_body_b40 N K N (nI e) (nI row) (nI nts) 0 M = some M' ∧ mk_M R A M' ∧ mk_bm (mk_fo (fun h o => mk_fo (fun t o => g h t o) (R 48 26) 0 o) (R 48 25) 0 o) M' ∧ mk_ob 10000 (mk_fo (fun h o => mk_fo (fun t o => g h t o) (R 48 26) 0 o) (R 48 25) 0 o) ∧ P M' ∧ (∀ k, k < 48 → M' 68 (48 * e + k) = nI (R 65 k)) := by
  intro o M hM hbm hob hPM ha
  have h6 := hw.h6
  have t6 := hw.t6
  have hs := hw.now.spot
  have hbr := hw.now.bread
  have hHT : R 48 25 * R 48 26 ≤ 6 * 6 := Nat.mul_le_mul h6 t6
  obtain ⟨M', p, q⟩ := mk_lp (L := fun n (_ : Option (Nat × Nat)) i M => F_M_tryTwo_body_b40 N K n (nI e) (nI row) (nI nts) (nI i) M) (R 48 25 * R 48 26) (fun k o => g (k / R 48 26) (k % R 48 26) o) (fun _ o M1 => mk_M R A M1 ∧ mk_bm o M1 ∧ mk_ob 10000 o ∧ P M1 ∧ ∀ k, k < 48 → M1 68 (48 * e + k) = nI (R 65 k)) (fun _ M => some M)
    (fun n s M1 p => by rw [F_M_tryTwo_body_b40, p.1.hs, p.1.ts, pk_mul, if_pos (Int32.le_refl _)])
    (fun n o k M1 hk p => by
      obtain ⟨m1, b1, o1, P1, a1⟩ := p
      have hh : k / R 48 26 < R 48 25 := Nat.div_lt_of_lt_mul (by rw [Nat.mul_comm]; exact hk)
      have ht : k % R 48 26 < R 48 26 := Nat.mod_lt _ hT
      rw [F_M_tryTwo_body_b40, m1.hs, m1.ts, pk_mul, if_neg (nI_ge hk (by omega)), if_neg (nI_ne0 hT (by omega)), pk_rem (by omega) hT (by omega), pk_div (by omega) hT (by omega)]
      simp only [mj_lt]
      rw [if_neg (nI_ne0 hT (by omega)), mk_Mowns m1 hw (by omega)]
      simp only [mk_bs]
      generalize k / R 48 26 = h at *
      generalize k % R 48 26 = t at *
      have hb2 := nw_b2 (R 65 43) t
      have hdd : nw_d h (R 65 42) < 20 := by unfold nw_d; omega
      by_cases c : nw_b (R 65 43) t = 0
      · rw [c, if_pos (show nI 0 = (0 : Int32) from rfl), nI_1, hg0 h t o (Or.inl c)]
        exact ⟨M1, ⟨m1, b1, o1, P1, a1⟩, rfl⟩
      · rw [if_neg (show ¬ nI (nw_b (R 65 43) t) = (0 : Int32) from nI_ne0 (by omega) (by omega)), mk_Mfar m1 hw (by omega)]
        simp only [mk_bs]
        rw [m1.now 44 (by omega)]
        simp (disch := omega) only [nw_lt]
        by_cases d : R 65 44 < nw_d h (R 65 42)
        · rw [if_pos d, nI_1, hg0 h t o (Or.inr d)]
          exact ⟨M1, ⟨m1, b1, o1, P1, a1⟩, rfl⟩
        · rw [if_neg d]
          obtain ⟨M2, M3, e2, e3, x3, -, f3⟩ := mk_Mgt hN hw m1 hh ht (by omega) h0
          rw [e2]
          simp only [mk_bs]
          rw [e3]
          simp only [mk_bs]
          rw [nI_1, nl_100, pk_mul, nl_10, pk_mul, nI_add, nI_add, nI_add]
          obtain ⟨M4, R', e4, x4, c4, k4, b4, o4, P4, a4⟩ := hK h t o M3 hh ht c d x3 ⟨by rw [f3 48 (by omega) (by omega) (by omega)]; exact b1.1, fun q hq => by rw [f3 48 (by omega) (by omega) (by omega)]; exact b1.2 q hq⟩ o1 (hP M1 M3 P1 f3) (fun k hk => by rw [f3 68 (by omega) (by omega) (by omega)]; exact a1 k hk)
          rw [e4]
          simp only [mk_bs]
          obtain ⟨M5, e5, x5, f5⟩ := mk_Mtk (N := N) (by omega) x4 c4 k4 he a4
          rw [e5]
          simp only [mk_bs]
          rw [nI_1]
          exact ⟨M5, ⟨x5, ⟨by rw [f5 48 (by omega)]; exact b4.1, fun q hq => by rw [f5 48 (by omega)]; exact b4.2 q hq⟩, o4, hP M4 M5 P4 (fun c _ _ c3 => f5 c c3), fun k hk => by rw [f5 68 (by omega)]; exact a4 k hk⟩, rfl⟩)
    (R 48 25 * R 48 26) 0 N o M (by omega) (by omega) ⟨hM, hbm, hob, hPM, ha⟩
  have hpr := mk_fo_pr (fun h t o => g h t o) hT (R 48 25) 0 o
  rw [Nat.zero_mul] at hpr
  rw [hpr] at p
  exact ⟨M', q, p⟩
end Two2
