/-! ===== the pure side: places, both ways ===== -/
section Places2
variable {N : Nat} {S : mk_S} {A : mk_L}
theorem mk_Xrow (hN : 1000 ≤ N) (hw : mk_W S A) {M0 M : mj_M} (hX : mk_X S A M0) {h : Nat} (r : mk_px S A M0 (h + 1) M) (hh : h < S 48 25) (k : Int32 → mj_M → Option mj_M) : ∃ M', F_Plans_findPlaces_b28 N k N (nI h) 0 M = k (nI h + -1) M' ∧ mk_px S A M0 h M' := by
  have h6 := hw.h6
  have t6 := hw.t6
  obtain ⟨h64, h1⟩ := mk_2T hw
  obtain ⟨M', p, q⟩ := mk_lp (L := fun n (_ : Unit) i M => F_Plans_findPlaces_b28 N k n (nI h) (nI i) M) (2 ^ S 48 26) (fun _ s => s) (fun i _ M1 => mk_px S A M0 (h + 1) M1 ∧ ∀ u, u < i → M1 37 (h * 64 + u) = nI (mk_pV S A (S 48 25 - h) u)) (fun _ M => k (nI h + -1) M)
    (fun n s M1 p => by
      rw [F_Plans_findPlaces_b28]
      unfold F_Coast_allTales
      simp only [mk_bs]
      rw [(p.1.X hX).1.ts, nl_1, nl_31, nw_shl (by omega), pk_sub h1, if_pos (nI_lt (by omega) (by omega))])
    (fun n s u M1 hu p => by
      obtain ⟨r1, p2⟩ := p
      have ed : S 48 25 - h = (S 48 25 - (h + 1)) + 1 := by omega
      have eh : S 48 25 - (S 48 25 - (h + 1) + 1) = h := by omega
      obtain ⟨v1, v2⟩ := mk_pV1 (S := S) (A := A) (S 48 25 - (h + 1)) u
      have vb := mk_pVb (S := S) (A := A) (S 48 25 - (h + 1) + 1) u
      unfold mk_pP at v1 v2
      rw [eh] at v1 v2
      refine ⟨mj_u M1 37 (h * 64 + u) (nI (mk_pV S A (S 48 25 - h) u)), ⟨⟨fun c c1 c2 c3 c4 c5 => by rw [nw_u9 _ c5]; exact r1.1 c c1 c2 c3 c4 c5, fun a b ha hb => by rw [nw_u9 _ (by omega)]; exact r1.2.1 a b ha hb, fun j u' hj hj2 hu' => ?_⟩, fun u' hu' => ?_⟩, ?_⟩
      · rw [mj_u_eq, mj_up_ne _ _ _ (by omega)]; exact r1.2.2 j u' hj hj2 hu'
      · rw [mj_u_eq]
        by_cases e : u' = u
        · rw [e, mj_up_eq]
        · rw [mj_up_ne _ _ _ (by omega)]; exact p2 u' (by omega)
      · rw [F_Plans_findPlaces_b28]
        unfold F_Coast_allTales
        simp only [mk_bs]
        rw [(r1.X hX).1.ts, nl_1, nl_31, nw_shl (by omega), pk_sub h1, if_neg (nI_nlt (by omega) (by omega)), mk_Xplace hN hw hX r1 hh hu]
        simp only [mk_bs]
        rw [mk_Xnby hw r1 hh hu v2]
        simp only [mk_bs, mj_lt]
        rw [show (64 : Int32) = nI 64 from rfl, pk_mul, nI_add, nw_ck (by omega) (by omega), nI_clamp (by omega), ← v1, nI_add, ed])
    (2 ^ S 48 26) 0 N () M (by omega) (by omega) ⟨r, fun u hu => by omega⟩
  refine ⟨M', q, p.1.1, p.1.2.1, fun j u hj hj2 hu => ?_⟩
  by_cases e : j = h
  · rw [e]; exact p.2 u hu
  · exact p.1.2.2 j u (by omega) hj2 hu
theorem mk_Xtail (hN : 1000 ≤ N) (hw : mk_W S A) {M0 M : mj_M} (hX : mk_X S A M0) (r : mk_px S A M0 0 M) (h0 : M 33 2 = nI 0) (h3 : M 33 3 = nI (mk_pV S A (S 48 25) 0)) : ∃ M', F_Plans_findPlaces_b93 N N 0 0 M = some M' ∧ mk_px S A M0 0 M' ∧ M' 33 2 = nI (mk_pr S A (S 48 25) 0) ∧ M' 33 3 = nI (mk_pV S A (S 48 25) 0) := by
  have h6 := hw.h6
  have t6 := hw.t6
  have key : ∀ d i n u row M, i + d = S 48 25 → d < n → u < 2 ^ S 48 26 → mk_px S A M0 0 M → M 33 2 = nI row → M 33 3 = nI (mk_pV S A (S 48 25) 0) → ∃ M', F_Plans_findPlaces_b93 N n (nI u) (nI i) M = some M' ∧ mk_px S A M0 0 M' ∧ M' 33 2 = nI (row * 10 ^ d + mk_pr S A d u) ∧ M' 33 3 = nI (mk_pV S A (S 48 25) 0) := by
    intro d
    induction d with
    | zero =>
      intro i n u row M hi hn hu r h2 h3
      obtain ⟨n, rfl⟩ : ∃ k, n = k + 1 := ⟨n - 1, by omega⟩
      have : i = S 48 25 := by omega
      subst this
      refine ⟨M, ?_, r, ?_, h3⟩
      · rw [F_Plans_findPlaces_b93, (r.X hX).1.hs, if_pos (Int32.le_refl _)]
      · rw [h2, mk_pr]
        congr 1
        omega
    | succ d ih =>
      intro i n u row M hi hn hu r h2 h3
      obtain ⟨n, rfl⟩ : ∃ k, n = k + 1 := ⟨n - 1, by omega⟩
      have ed : S 48 25 - (i + 1) = d := by omega
      have ei : S 48 25 - (d + 1) = i := by omega
      have hp := (mk_pV1 (S := S) (A := A) d u).2
      have r1 : mk_px S A M0 (i + 1) M := ⟨r.1, r.2.1, fun j u hj hj2 hu => r.2.2 j u (by omega) hj2 hu⟩
      have ep := mk_Xplace hN hw hX r1 (show i < S 48 25 by omega) hu
      have epp : (mk_gp (mk_pf S A (mk_pV S A (S 48 25 - (i + 1))) i u)).1 = mk_pP S A d u := by unfold mk_pP; rw [ed, ei]
      rw [epp] at ep
      obtain ⟨M', e', r', a', b'⟩ := ih (i + 1) n (mk_wi u (mk_pP S A d u)) (row * 10 + mk_pP S A d u) (mj_u M 33 2 (nI (row * 10 + mk_pP S A d u))) (by omega) (by omega) (mk_wiT hu hp t6) ⟨fun c c1 c2 c3 c4 c5 => by rw [nw_u9 _ c3]; exact r.1 c c1 c2 c3 c4 c5, fun a b ha hb => by rw [nw_u9 _ (by omega)]; exact r.2.1 a b ha hb, fun j u hj hj2 hu => by rw [nw_u9 _ (by omega)]; exact r.2.2 j u hj hj2 hu⟩ (by rw [mj_u_eq, mj_up_eq]) (by rw [mj_u_eq, mj_up_ne _ _ _ (by omega)]; exact h3)
      refine ⟨M', ?_, r', ?_, b'⟩
      · rw [F_Plans_findPlaces_b93, (r.X hX).1.hs, if_neg (nI_ge (by omega) (by omega)), ep]
        simp only [mk_bs, mj_lt]
        rw [h2, nl_10, pk_mul, nI_add, mk_Xwith (by omega)]
        simp only [mk_bs]
        rw [nI_1]
        exact e'
      · rw [a', mk_pr, Nat.pow_succ]
        congr 1
        rw [Nat.add_mul, Nat.mul_assoc, Nat.mul_comm 10, Nat.add_assoc]
  obtain ⟨M', e', r', a', b'⟩ := key (S 48 25) 0 N 0 0 M (by omega) (by omega) (by have := (mk_2T hw).2; omega) r h0 h3
  refine ⟨M', e', r', ?_, b'⟩
  rw [a', Nat.zero_mul, Nat.zero_add]
theorem mk_Xplaces (hN : 1000 ≤ N) (hw : mk_W S A) {M0 : mj_M} (hX : mk_X S A M0) (h0 : 0 < S 48 25) : ∃ M', F_Plans_findPlaces N M0 = some M' ∧ mk_px S A M0 0 M' ∧ M' 33 2 = nI (mk_pr S A (S 48 25) 0) ∧ M' 33 3 = nI (mk_pV S A (S 48 25) 0) := by
  have h6 := hw.h6
  have t6 := hw.t6
  obtain ⟨h64, h1⟩ := mk_2T hw
  obtain ⟨M1, e1, f1, w1⟩ := mk_Xweigh hN hw hX
  obtain ⟨M2, p2, q2⟩ := mk_lp (L := fun n (_ : Unit) i M => F_Arrays_fill_c37_b5 N n 0 (nI i) 448 M) 448 (fun _ s => s) (fun i _ M2 => (∀ c, c ≠ 37 → M2 c = M1 c) ∧ ∀ k, k < i → M2 37 k = nI 0) (fun _ M => some M)
    (fun n s M2 p => by rw [F_Arrays_fill_c37_b5, show (448 : Int32) = nI 448 from rfl, if_pos (Int32.le_refl _)])
    (fun n s i M2 hi p => by
      refine ⟨mj_u M2 37 i (nI 0), ⟨fun c hc => by rw [nw_u9 _ hc]; exact p.1 c hc, fun k hk => ?_⟩, ?_⟩
      · rw [mj_u_eq]
        by_cases e : k = i
        · rw [e, mj_up_eq]
        · rw [mj_up_ne _ _ _ e]; exact p.2 k (by omega)
      · rw [F_Arrays_fill_c37_b5, show (448 : Int32) = nI 448 from rfl, if_neg (nI_ge hi (by omega)), nw_ck (by omega) (by omega), nI_clamp (by omega), nI_1]
        rfl)
    448 0 N () M1 (by omega) (by omega) ⟨fun _ _ => rfl, fun k hk => by omega⟩
  have r2 : mk_px S A M0 (S 48 25) M2 := by
    refine ⟨fun c c1 c2 c3 c4 c5 => by rw [p2.1 c c5]; exact f1 c c1 c2 c4, fun a b ha hb => by rw [p2.1 34 (by omega)]; exact w1 a b ha hb, fun j u hj hj2 hu => ?_⟩
    rw [p2.2 _ (by omega), show S 48 25 - j = 0 by omega]
    rfl
  have key : ∀ h n M, h ≤ S 48 25 → h < n → mk_px S A M0 h M → ∃ M', F_Plans_findPlaces_b22 N n (nI h + -1) M = some M' ∧ mk_px S A M0 0 M' ∧ M' 33 2 = nI (mk_pr S A (S 48 25) 0) ∧ M' 33 3 = nI (mk_pV S A (S 48 25) 0) := by
    intro h
    induction h with
    | zero =>
      intro n M hh hn r
      obtain ⟨n, rfl⟩ : ∃ k, n = k + 1 := ⟨n - 1, by omega⟩
      have r5 : mk_px S A M0 0 (mj_u (mj_u M 33 3 (M 37 0)) 33 2 (nI 0)) := ⟨fun c c1 c2 c3 c4 c5 => by rw [nw_u9 _ c3, nw_u9 _ c3]; exact r.1 c c1 c2 c3 c4 c5, fun a b ha hb => by rw [nw_u9 _ (by omega), nw_u9 _ (by omega)]; exact r.2.1 a b ha hb, fun j u hj hj2 hu => by rw [nw_u9 _ (by omega), nw_u9 _ (by omega)]; exact r.2.2 j u hj hj2 hu⟩
      obtain ⟨M', e', q'⟩ := mk_Xtail hN hw hX r5 (by rw [mj_u_eq, mj_up_eq]) (by rw [mj_u_eq, mj_up_ne _ _ _ (by omega), mj_u_eq, mj_up_eq]; have := r.2.2 0 0 (by omega) (by omega) (by omega); rw [show 0 * 64 + 0 = 0 from rfl, Nat.sub_zero] at this; exact this)
      refine ⟨M', ?_, q'⟩
      rw [F_Plans_findPlaces_b22, if_pos (by decide +kernel)]
      simp only [mj_lt]
      exact e'
    | succ h ih =>
      intro n M hh hn r
      obtain ⟨n, rfl⟩ : ∃ k, n = k + 1 := ⟨n - 1, by omega⟩
      obtain ⟨M3, e3, r3⟩ := mk_Xrow hN hw hX r (by omega) (F_Plans_findPlaces_b22 N n)
      obtain ⟨M', e', q'⟩ := ih n M3 (by omega) (by omega) r3
      refine ⟨M', ?_, q'⟩
      rw [pk_m1, F_Plans_findPlaces_b22, if_neg (nI_pos (by omega)), e3]
      exact e'
  obtain ⟨M', e', q'⟩ := key (S 48 25) N M2 (by omega) (by omega) r2
  refine ⟨M', ?_, q'⟩
  unfold F_Plans_findPlaces F_Arrays_fill_c37
  rw [e1]
  simp only [mk_bs]
  rw [show F_Arrays_fill_c37_b5 N N 0 0 448 M1 = some M2 from q2]
  simp only [mk_bs, mj_lt]
  rw [(r2.X hX).1.hs]
  have : nI (S 48 25) - 1 = nI (S 48 25) + -1 := by
    obtain ⟨k, hk⟩ : ∃ k, S 48 25 = k + 1 := ⟨S 48 25 - 1, by omega⟩
    rw [hk, nI_pred, pk_m1]
  rw [this]
  exact e'
/-- which of his tales are left -/
def mk_lu (S : mk_S) (l u : Nat) : Prop := l < 64 ∧ u < 64 ∧ ∀ t, t < 6 → nw_b l t = if nw_b (S 65 43) t = 1 ∧ nw_b u t = 0 then 1 else 0
def mk_cur (f : Nat → Nat) (n : Nat) (o : Option (Nat × Nat)) : Option (Nat × Nat) → Option (Nat × Nat)
  | none => o
  | some q => mk_c2 (f q.1) (n + q.2) o
theorem mk_cur_c (f : Nat → Nat) (n : Nat) (o : Option (Nat × Nat)) (t v : Nat) (st : Option (Nat × Nat)) : mk_c2 (f t) (n + v) (mk_cur f n o st) = mk_cur f n o (mk_c2 t v st) := by
  cases st with
  | none => rfl
  | some q =>
    rw [mk_cur, mk_c2.eq_2 t v q]
    by_cases c : v ≤ q.2
    · rw [if_pos c, mk_cur]
      cases o with
      | none => rw [mk_c2, mk_c2, if_pos (by show n + v ≤ n + q.2; omega)]
      | some p =>
        rw [mk_c2.eq_2 (f q.1)]
        by_cases d : n + q.2 ≤ p.2
        · rw [if_pos d, mk_c2, if_pos (by omega)]
        · rw [if_neg d, mk_c2, if_pos (by show n + v ≤ n + q.2; omega)]
    · rw [if_neg c, mk_cur]
      cases o with
      | none => rw [mk_c2.eq_1, mk_c2.eq_2, if_neg (by show ¬ n + v ≤ n + q.2; omega), mk_c2.eq_1]
      | some p =>
        rw [mk_c2.eq_2 (f q.1), mk_c2.eq_2 (f t)]
        by_cases d : n + q.2 ≤ p.2
        · rw [if_pos d, mk_c2.eq_2]
        · rw [if_neg d, mk_c2.eq_2, if_neg (by show ¬ n + v ≤ n + q.2; omega), if_neg (by show ¬ n + v ≤ p.2; omega)]
theorem mk_Mpl (hN : 10000 ≤ N) (hw : mk_W S A) : ∀ d h n l u row nts o M, h + d = S 48 25 → d < n → mk_lu S l u → row < 10 ^ h → nts ≤ 20 * h → mk_M S A M → mk_bm o M → mk_ob 1000000 o → ∃ M', F_M_tryPlaces N n (nI h) (nI l) (nI row) (nI nts) M = some M' ∧ mk_M S A M' ∧ mk_fm M M' ∧ mk_bm (mk_c2 (row * 10 ^ d + mk_pr S A d u) (nts + mk_pV S A d u) o) M' ∧ mk_ob 1000000 (mk_c2 (row * 10 ^ d + mk_pr S A d u) (nts + mk_pV S A d u) o) := by
  have h6 := hw.h6
  have t6 := hw.t6
  intro d
  induction d with
  | zero =>
    intro h n l u row nts o M hd hn hl hrow hnts hM hb hob
    obtain ⟨n, rfl⟩ : ∃ k, n = k + 1 := ⟨n - 1, by omega⟩
    have hh : h = S 48 25 := by omega
    have hp : 10 ^ h ≤ 10 ^ 6 := Nat.pow_le_pow_right (by omega) (by omega)
    rw [mk_pr, mk_pV, Nat.pow_zero, Nat.mul_one, Nat.add_zero, Nat.add_zero]
    obtain ⟨M', e', b', f', g'⟩ := mk_Mc2 (row := row) (sum := nts) (B := 1000000) (by omega) hb hob (by omega) (by omega) (F_M_tryPlaces N (n + 1) (nI h) (nI l) (nI row) (nI nts) M) (by
      rw [F_M_tryPlaces]
      unfold F_M_tryPlaces_body
      rw [if_pos (by rw [hM.hs, hh])])
    exact ⟨M', e', mk_M35 hM f' g', fun c hc => f' c (by omega), b', mk_c2_ob hob (by omega) (by omega)⟩
  | succ d ih =>
    intro h n l u row nts o M hd hn hl hrow hnts hM hb hob
    obtain ⟨n, rfl⟩ : ∃ k, n = k + 1 := ⟨n - 1, by omega⟩
    obtain ⟨l1, l2, l3⟩ := hl
    have ei : S 48 25 - (d + 1) = h := by omega
    have hr1 : ∀ p, p ≤ 9 → 10 * row + p < 10 ^ (h + 1) := fun p hp => by rw [Nat.pow_succ]; omega
    obtain ⟨f, hf⟩ : ∃ f : Nat → Nat, f = fun p => (10 * row + p) * 10 ^ d + mk_pr S A d (mk_wi u p) := ⟨_, rfl⟩
    obtain ⟨M', p, q⟩ := mk_lp (L := fun m (_ : Option (Nat × Nat)) i M => F_M_tryPlaces_body_b40 N (F_M_tryPlaces N n) m (nI h) (nI l) (nI row) (nI nts) (nI i) M) (S 48 26) (mk_pg1 S A (mk_pV S A d) h u) (fun _ st M1 => mk_M S A M1 ∧ mk_fm M M1 ∧ mk_bm (mk_cur f nts o st) M1 ∧ mk_ob 1000000 (mk_cur f nts o st)) (fun _ M1 => (F_M_tryPlaces N n (nI (h + 1)) (nI l) (nI (10 * row + 9)) (nI nts) M1).bind (fun q9 => some q9))
      (fun m st M1 p => by rw [F_M_tryPlaces_body_b40, p.1.ts, if_pos (Int32.le_refl _), nI_1, nl_10, pk_mul, nl_9, nI_add])
      (fun m st t M1 ht p => by
        obtain ⟨m1, f1, b1, o1⟩ := p
        have hb2 := nw_b2 (S 65 43) t
        have hbu := nw_b2 u t
        have h20 := mk_now20 S A h t
        rw [F_M_tryPlaces_body_b40, m1.ts, if_neg (nI_ge ht (by omega)), mk_Mhas (by omega) (by omega)]
        simp only [mk_bs]
        rw [l3 t (by omega)]
        unfold mk_pg1
        by_cases c : nw_b (S 65 43) t = 1 ∧ nw_b u t = 0
        · rw [if_pos c, if_neg (show ¬ nI 1 = (0 : Int32) by decide +kernel), if_neg (by omega), if_pos c.2]
          obtain ⟨M2, e2, x2, f2⟩ := mk_Mnow' (N := N) (by omega) hw m1 (show h < S 48 25 by omega) ht
          have m2b : mk_bm (mk_cur f nts o st) M2 := by
            obtain ⟨M2', e2', g2⟩ := mk_Mnow (N := N) (by omega) hw m1 (show h < S 48 25 by omega) ht
            rw [e2] at e2'
            have := (Prod.mk.inj (Option.some.inj e2')).2
            subst this
            exact ⟨by rw [g2 48 (by omega) (by omega)]; exact b1.1, fun q hq => by rw [g2 48 (by omega) (by omega)]; exact b1.2 q hq⟩
          rw [e2]
          simp only [mk_bs]
          rw [nI_1, nl_1, nl_31, nw_shl (by omega), mk_clr_x l l1 t (by omega), nl_10, pk_mul, nI_add, nI_add]
          have hlu : mk_lu S (mk_clr l t) (mk_wi u t) := by
            have ewi : mk_wi u t = u ||| 2 ^ t := by unfold mk_wi; rw [if_neg (by omega)]
            refine ⟨mk_clr_l l t l1, by rw [ewi]; exact mk_or6 l2 (by omega), fun s hs => ?_⟩
            rw [mk_clr_b l l1 t (by omega) s hs, ewi, mk_or_b u l2 t (by omega) s hs, l3 s hs]
            by_cases e : s = t
            · rw [if_pos e, if_pos e, if_neg (by omega)]
            · rw [if_neg e, if_neg e]
          obtain ⟨M3, e3, x3, f3, b3, o3⟩ := ih (h + 1) n (mk_clr l t) (mk_wi u t) (10 * row + t) (nts + mk_now S A h t) (mk_cur f nts o st) M2 (by omega) (by omega) hlu (hr1 t (by omega)) (by omega) x2 m2b o1
          have ec : mk_c2 ((10 * row + t) * 10 ^ d + mk_pr S A d (mk_wi u t)) (nts + mk_now S A h t + mk_pV S A d (mk_wi u t)) (mk_cur f nts o st) = mk_cur f nts o (mk_c2 t (mk_va S A (mk_pV S A d) h u t) st) := by
            rw [← mk_cur_c]
            have ef : f t = (10 * row + t) * 10 ^ d + mk_pr S A d (mk_wi u t) := by rw [hf]
            have ev : mk_va S A (mk_pV S A d) h u t = mk_now S A h t + mk_pV S A d (mk_wi u t) := by unfold mk_va; rw [if_neg (by omega)]
            rw [ef, ev, Nat.add_assoc]
          rw [ec] at b3 o3
          rw [e3]
          simp only [mk_bs]
          rw [nI_add]
          exact ⟨M3, ⟨x3, (f1.tr f2).tr f3, b3, o3⟩, rfl⟩
        · rw [if_neg c, if_pos (show nI 0 = (0 : Int32) from rfl), nI_1]
          have : (if nw_b (S 65 43) t = 0 then st else if nw_b u t = 0 then mk_c2 t (mk_va S A (mk_pV S A d) h u t) st else st) = st := by
            by_cases c1 : nw_b (S 65 43) t = 0
            · rw [if_pos c1]
            · rw [if_neg c1, if_neg (by omega)]
          rw [this]
          exact ⟨M1, ⟨m1, f1, b1, o1⟩, rfl⟩)
      (S 48 26) 0 N none M (by omega) (by omega) ⟨hM, mk_fm.rf, hb, hob⟩
    obtain ⟨m1, f1, b1, o1⟩ := p
    obtain ⟨M3, e3, x3, f3, b3, o3⟩ := ih (h + 1) n l u (10 * row + 9) nts (mk_cur f nts o (mk_fo (mk_pg1 S A (mk_pV S A d) h u) (S 48 26) 0 none)) M' (by omega) (by omega) ⟨l1, l2, l3⟩ (hr1 9 (by omega)) (by omega) m1 b1 o1
    have ec : mk_c2 ((10 * row + 9) * 10 ^ d + mk_pr S A d u) (nts + mk_pV S A d u) (mk_cur f nts o (mk_fo (mk_pg1 S A (mk_pV S A d) h u) (S 48 26) 0 none)) = mk_c2 (row * 10 ^ (d + 1) + mk_pr S A (d + 1) u) (nts + mk_pV S A (d + 1) u) o := by
      have ef : f 9 = (10 * row + 9) * 10 ^ d + mk_pr S A d u := by rw [hf]; rfl
      have ev : mk_va S A (mk_pV S A d) h u 9 = mk_pV S A d u := by unfold mk_va mk_wi; rw [if_pos rfl, if_pos rfl, Nat.zero_add]
      rw [← ef, ← ev, mk_cur_c]
      obtain ⟨q, eq, -, -⟩ := mk_pf_s (S := S) (A := A) (mk_pV S A d) h u
      have e1 : mk_pP S A d u = q.1 := by unfold mk_pP; rw [ei, eq]; rfl
      have e2 : mk_pV S A (d + 1) u = q.2 := by rw [mk_pV, ei, eq]; rfl
      have eq' : mk_c2 9 (mk_va S A (mk_pV S A d) h u 9) (mk_fo (mk_pg1 S A (mk_pV S A d) h u) (S 48 26) 0 none) = some q := eq
      rw [eq', mk_cur, mk_pr, e1, e2, hf]
      congr 1
      show (10 * row + q.1) * 10 ^ d + mk_pr S A d (mk_wi u q.1) = _
      rw [Nat.add_mul, Nat.pow_succ, Nat.mul_comm 10 row, Nat.mul_assoc, Nat.mul_comm 10, Nat.add_assoc]
    rw [ec] at b3 o3
    refine ⟨M3, ?_, x3, f1.tr f3, b3, o3⟩
    rw [F_M_tryPlaces]
    unfold F_M_tryPlaces_body
    rw [hM.hs, if_neg (show ¬ nI h = nI (S 48 25) by rw [nw_eq (by omega) (by omega)]; omega)]
    refine q.trans ?_
    rw [e3]
    rfl
end Places2
theorem op_22 {N : Nat} (hN : 10000 ≤ N) : mo_22 N mk_I := by
  intro M ⟨S, A, hw, hX, hM⟩ a
  have h6 := hw.h6
  have hht := hw.ht
  have ho := hw.now.own hw.t6
  by_cases c0 : S 48 25 = 0
  · refine mk_fin (r := -1) hw hX hM (mk_QX.same fun M hX => ?_) (mk_QM.same fun M hM => ?_)
    · unfold F_W_places; rw [mk_Xtold0 hX c0]; rfl
    · unfold F_M_places; rw [if_pos (mk_H0 hM c0)]
  rcases mk_ix a (n := 2) (by omega) with h' | ⟨w, hwt, rfl⟩
  · refine mk_fin (r := -1) hw hX hM (mk_QX.same fun M hX => ?_) (mk_QM.same fun M hM => ?_)
    · unfold F_W_places
      rw [mk_Xtold1 hX hw (by omega)]
      simp only [mk_bs]
      rw [if_neg (by decide +kernel)]
      by_cases d : a < 0
      · rw [if_pos d]
      · rw [if_neg d, nl_1, if_neg (nw_gt (h'.resolve_left d) (by omega)).2.1]
    · unfold F_M_places
      rw [if_neg (mk_H1 hM hw c0), nl_0, nl_1, mk_Mino h' (by omega)]
      rfl
  refine mk_fin (r := if w = 0 then nI (mk_pr S A (S 48 25) 0) else nI (mk_pV S A (S 48 25) 0)) hw hX hM (fun M hX => ?_) (fun M hM => ?_)
  · obtain ⟨M1, e1, r1, a1, b1⟩ := mk_Xplaces (N := N) (by omega) hw hX (by omega)
    refine ⟨M1, ?_, r1.X hX⟩
    unfold F_W_places
    rw [mk_Xtold1 hX hw (by omega)]
    simp only [mk_bs]
    rw [if_neg (by decide +kernel), if_neg (nI_pos (by omega)), nl_1, if_pos (nI_le (by omega) (by omega)), e1]
    simp (disch := omega) only [mk_bs, nl_0, nw_eq]
    rw [a1, b1]
    split <;> rfl
  · have hM4 : mk_M S A (mj_u M 48 35 (-1)) := mk_M35 hM (fun c hc => nw_u9 _ hc) (fun k k1 _ => by rw [mj_u_eq, mj_up_ne _ _ _ k1])
    have hlu : mk_lu S (S 65 43) 0 := ⟨ho, by omega, fun t ht => by
      have := nw_b2 (S 65 43) t
      have e0 : nw_b 0 t = 0 := by unfold nw_b; rw [Nat.zero_div]
      by_cases c : nw_b (S 65 43) t = 1
      · rw [if_pos ⟨c, e0⟩, c]
      · rw [if_neg (fun k => c k.1)]; omega⟩
    obtain ⟨M1, e1, x1, f1, b1, o1⟩ := mk_Mpl hN hw (S 48 25) 0 10 (S 65 43) 0 0 0 none (mj_u M 48 35 (-1)) (by omega) (by omega) hlu (by omega) (by omega) hM4 ⟨by rw [mj_u_eq, mj_up_eq]; rfl, fun q hq => by cases hq⟩ trivial
    rw [mk_c2, Nat.zero_mul, Nat.zero_add, Nat.zero_add] at b1
    refine ⟨M1, ?_, x1, (mk_fm.rf.u (by omega)).tr f1⟩
    unfold F_M_places
    rw [if_neg (mk_H1 hM hw c0), show F_M_in (nI w) 0 1 M = some (nI 1, M) from mk_Mini (n := 1) (by omega) (by omega)]
    simp only [mk_bs, mj_lt]
    rw [if_neg (show ¬ nI 1 = (0 : Int32) by decide +kernel), hM4.now 43 (by omega), show F_M_tryPlaces N 10 0 (nI (S 65 43)) 0 0 (mj_u M 48 35 (-1)) = some M1 from e1]
    simp only [mk_bs]
    rw [b1.1, b1.2 _ rfl]
    simp (disch := omega) only [nl_0, nw_eq]
    split <;> rfl
